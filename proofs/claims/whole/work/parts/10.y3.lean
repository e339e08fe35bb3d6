theorem dX9_add_0 : decode cX9_add 0 = .ok (.aload_n 0, 1) := by decide +kernel
theorem dX9_add_1 : decode cX9_add 1 = .ok (.getfield 30, 3) := by decide +kernel
theorem dX9_add_4 : decode cX9_add 4 = .ok (.bipush 6, 2) := by decide +kernel
theorem dX9_add_6 : decode cX9_add 6 = .ok (.if_icmp .lt 8, 3) := by decide +kernel
theorem dX9_add_9 : decode cX9_add 9 = .ok (.aload_n 0, 1) := by decide +kernel
theorem dX9_add_10 : decode cX9_add 10 = .ok (.getfield 30, 3) := by decide +kernel
theorem dX9_add_13 : decode cX9_add 13 = .ok (.ireturn, 1) := by decide +kernel
theorem dX9_add_14 : decode cX9_add 14 = .ok (.iload_n 1, 1) := by decide +kernel
theorem dX9_add_15 : decode cX9_add 15 = .ok (.istore_n 3, 1) := by decide +kernel
theorem dX9_add_16 : decode cX9_add 16 = .ok (.iconst 0, 1) := by decide +kernel
theorem dX9_add_17 : decode cX9_add 17 = .ok (.istore 4, 2) := by decide +kernel
theorem dX9_add_19 : decode cX9_add 19 = .ok (.iload 4, 2) := by decide +kernel
theorem dX9_add_21 : decode cX9_add 21 = .ok (.iconst 5, 1) := by decide +kernel
theorem dX9_add_22 : decode cX9_add 22 = .ok (.if_icmp .ge 32, 3) := by decide +kernel
theorem dX9_add_25 : decode cX9_add 25 = .ok (.aload_n 0, 1) := by decide +kernel
theorem dX9_add_26 : decode cX9_add 26 = .ok (.getfield 15, 3) := by decide +kernel
theorem dX9_add_29 : decode cX9_add 29 = .ok (.aload_n 0, 1) := by decide +kernel
theorem dX9_add_30 : decode cX9_add 30 = .ok (.getfield 30, 3) := by decide +kernel
theorem dX9_add_33 : decode cX9_add 33 = .ok (.iconst 5, 1) := by decide +kernel
theorem dX9_add_34 : decode cX9_add 34 = .ok (.imul, 1) := by decide +kernel
theorem dX9_add_35 : decode cX9_add 35 = .ok (.iload 4, 2) := by decide +kernel
theorem dX9_add_37 : decode cX9_add 37 = .ok (.iadd, 1) := by decide +kernel
theorem dX9_add_38 : decode cX9_add 38 = .ok (.iload_n 3, 1) := by decide +kernel
theorem dX9_add_39 : decode cX9_add 39 = .ok (.bipush 10, 2) := by decide +kernel
theorem dX9_add_41 : decode cX9_add 41 = .ok (.irem, 1) := by decide +kernel
theorem dX9_add_42 : decode cX9_add 42 = .ok (.iastore, 1) := by decide +kernel
theorem dX9_add_43 : decode cX9_add 43 = .ok (.iload_n 3, 1) := by decide +kernel
theorem dX9_add_44 : decode cX9_add 44 = .ok (.bipush 10, 2) := by decide +kernel
theorem dX9_add_46 : decode cX9_add 46 = .ok (.idiv, 1) := by decide +kernel
theorem dX9_add_47 : decode cX9_add 47 = .ok (.istore_n 3, 1) := by decide +kernel
theorem dX9_add_48 : decode cX9_add 48 = .ok (.iinc 4 1, 3) := by decide +kernel
theorem dX9_add_51 : decode cX9_add 51 = .ok (.goto (-32), 3) := by decide +kernel
theorem dX9_add_54 : decode cX9_add 54 = .ok (.aload_n 0, 1) := by decide +kernel
theorem dX9_add_55 : decode cX9_add 55 = .ok (.getfield 18, 3) := by decide +kernel
theorem dX9_add_58 : decode cX9_add 58 = .ok (.aload_n 0, 1) := by decide +kernel
theorem dX9_add_59 : decode cX9_add 59 = .ok (.getfield 30, 3) := by decide +kernel
theorem dX9_add_62 : decode cX9_add 62 = .ok (.iload_n 2, 1) := by decide +kernel
theorem dX9_add_63 : decode cX9_add 63 = .ok (.iastore, 1) := by decide +kernel
theorem dX9_add_64 : decode cX9_add 64 = .ok (.aload_n 0, 1) := by decide +kernel
theorem dX9_add_65 : decode cX9_add 65 = .ok (.dup, 1) := by decide +kernel
theorem dX9_add_66 : decode cX9_add 66 = .ok (.getfield 30, 3) := by decide +kernel
theorem dX9_add_69 : decode cX9_add 69 = .ok (.dup_x1, 1) := by decide +kernel
theorem dX9_add_70 : decode cX9_add 70 = .ok (.iconst 1, 1) := by decide +kernel
theorem dX9_add_71 : decode cX9_add 71 = .ok (.iadd, 1) := by decide +kernel
theorem dX9_add_72 : decode cX9_add 72 = .ok (.putfield 30, 3) := by decide +kernel
theorem dX9_add_75 : decode cX9_add 75 = .ok (.ireturn, 1) := by decide +kernel
set_option maxRecDepth 100000 in
set_option maxHeartbeats 4000000 in
theorem wp_X9_add {n0 d : Nat} {K : z_K} {I : z_I} {L : z_L} {Q : z_q} {p0 : Int32} {p1 : Int32} (hL : CLay K) (h : (if ((I 52 3) : Int32) < 6 then Z n0 xX9_add d 0 0 19 [(0, .ref (n0 + 52)), (2, .int p1), (3, .int p0), (4, .int 0)] [] K I L (z_q0 K Q) else Q (some (.int (I 52 3))) I L)) : RM0 n0 xX9_add d [.ref (n0 + 52), .int p0, .int p1] K I L Q := by
  refine z_entry0 (by decide) (Nat.le_of_ble_eq_true rfl) ?_
  change Z n0 xX9_add d 0 0 0 [(0, .ref (n0 + 52)), (1, .int p0), (2, .int p1)] [] K I L (z_q0 K Q)
  refine z_aload_n 0 dX9_add_0 rfl ?_
  refine fg_9_30 (I 52 3) rfl dX9_add_1 (co_52 hL).1 (co_52 hL).2 rfl ?_
  refine z_bipush 6 dX9_add_4 (by decide) ?_
  refine z_icmp_lt 14 dX9_add_6 (by decide) (fun g1 => ?_) (fun g1 => ?_)
  · rw [if_pos g1] at h
    refine z_iload_n 1 dX9_add_14 rfl ?_
    refine z_istore_n [1, 2, 3, 0] [(0, .ref (n0 + 52)), (1, .int p0), (2, .int p1), (3, .int p0)] dX9_add_15 (by decide) rfl ?_
    refine z_iconst 0 dX9_add_16 (by decide) ?_
    refine z_istore [1, 2, 3, 4, 0] [(0, .ref (n0 + 52)), (1, .int p0), (2, .int p1), (3, .int p0), (4, .int 0)] dX9_add_17 (by decide) rfl ?_
    refine z_sub [0, 2, 3, 4] rfl ?_
    exact h
  · rw [if_neg g1] at h
    refine z_aload_n 0 dX9_add_9 rfl ?_
    refine fg_9_30 (I 52 3) rfl dX9_add_10 (co_52 hL).1 (co_52 hL).2 rfl ?_
    exact z_iret dX9_add_13 rfl ⟨rfl, h⟩
set_option maxRecDepth 100000 in
set_option maxHeartbeats 4000000 in
theorem wp_X9_add_19 {n0 d : Nat} {rc rs : Nat} {K : z_K} {I : z_I} {L : z_L} {Q : z_q} {a2 : Int32} {a3 : Int32} {a4 : Int32} (hL : CLay K) (h : (if a4 < 5 then vp_in (((I 52 3) * 5) + a4) 30 ∧ Z n0 xX9_add d rc rs 19 [(0, .ref (n0 + 52)), (2, .int a2), (3, .int (a3 / 10)), (4, .int (a4 + 1))] [] K (zI I 54 ((((I 52 3) * 5) + a4).toNatClampNeg) (a3 - a3 / 10 * 10)) L (z_q0 K Q) else vp_in (I 52 3) 6 ∧ Q (some (.int (I 52 3))) (zI (zI I 55 ((I 52 3).toNatClampNeg) a2) 52 3 ((I 52 3) + 1)) L)) : Z n0 xX9_add d rc rs 19 [(0, .ref (n0 + 52)), (2, .int a2), (3, .int a3), (4, .int a4)] [] K I L (z_q0 K Q) := by
  refine z_iload 3 dX9_add_19 rfl ?_
  refine z_iconst 5 dX9_add_21 (by decide) ?_
  refine z_icmp_ge 54 dX9_add_22 (by decide) (fun g1 => ?_) (fun g1 => ?_)
  · rw [if_neg g1] at h
    refine z_aload_n 0 dX9_add_54 rfl ?_
    refine fg_9_18 (some 55) rfl dX9_add_55 (co_52 hL).1 (co_52 hL).2 (ca_55 hL).1 ?_
    refine z_aload_n 0 dX9_add_58 rfl ?_
    refine fg_9_30 (I 52 3) rfl dX9_add_59 (co_52 hL).1 (co_52 hL).2 rfl ?_
    refine z_iload_n 1 dX9_add_62 rfl ?_
    obtain ⟨o2, h⟩ := h
    refine z_iast dX9_add_63 (ca_55 hL).2.1 (ca_55 hL).2.2 o2 ?_
    refine z_aload_n 0 dX9_add_64 rfl ?_
    refine z_dup dX9_add_65 rfl ?_
    refine fg_9_30 (I 52 3) rfl dX9_add_66 (co_52 hL).1 (co_52 hL).2 rfl ?_
    refine z_dup_x1 dX9_add_69 rfl rfl ?_
    refine z_iconst 1 dX9_add_70 (by decide) ?_
    refine z_iadd dX9_add_71 ?_
    refine fp_9_30 rfl dX9_add_72 (co_52 hL).1 (co_52 hL).2 ?_
    exact z_iret dX9_add_75 rfl ⟨rfl, h⟩
  · rw [if_pos g1] at h
    refine z_aload_n 0 dX9_add_25 rfl ?_
    refine fg_9_15 (some 54) rfl dX9_add_26 (co_52 hL).1 (co_52 hL).2 (ca_54 hL).1 ?_
    refine z_aload_n 0 dX9_add_29 rfl ?_
    refine fg_9_30 (I 52 3) rfl dX9_add_30 (co_52 hL).1 (co_52 hL).2 rfl ?_
    refine z_iconst 5 dX9_add_33 (by decide) ?_
    refine z_imul dX9_add_34 ?_
    refine z_iload 3 dX9_add_35 rfl ?_
    refine z_iadd dX9_add_37 ?_
    refine z_iload_n 2 dX9_add_38 rfl ?_
    refine z_bipush 10 dX9_add_39 (by decide) ?_
    refine z_irem dX9_add_41 (by decide) ?_
    obtain ⟨o3, h⟩ := h
    refine z_iast dX9_add_42 (ca_54 hL).2.1 (ca_54 hL).2.2 o3 ?_
    refine z_iload_n 2 dX9_add_43 rfl ?_
    refine z_bipush 10 dX9_add_44 (by decide) ?_
    refine z_idiv dX9_add_46 (by decide) ?_
    refine z_istore_n [1, 2, 0, 3] [(0, .ref (n0 + 52)), (2, .int a2), (3, .int (a3 / 10)), (4, .int a4)] dX9_add_47 (by decide) rfl ?_
    refine z_iinc (j := 3) (a4 + 1) [1, 2, 3, 0] [(0, .ref (n0 + 52)), (2, .int a2), (3, .int (a3 / 10)), (4, .int (a4 + 1))] dX9_add_48 rfl rfl (by decide) rfl ?_
    refine z_goto 19 dX9_add_51 (by decide) ?_
    exact h
theorem dX9_solve_0 : decode cX9_solve 0 = .ok (.aload_n 0, 1) := by decide +kernel
theorem dX9_solve_1 : decode cX9_solve 1 = .ok (.ldc 34, 2) := by decide +kernel
theorem dX9_solve_3 : decode cX9_solve 3 = .ok (.putfield 35, 3) := by decide +kernel
theorem dX9_solve_6 : decode cX9_solve 6 = .ok (.aload_n 0, 1) := by decide +kernel
theorem dX9_solve_7 : decode cX9_solve 7 = .ok (.getfield 9, 3) := by decide +kernel
theorem dX9_solve_10 : decode cX9_solve 10 = .ok (.iconst 0, 1) := by decide +kernel
theorem dX9_solve_11 : decode cX9_solve 11 = .ok (.aload_n 0, 1) := by decide +kernel
theorem dX9_solve_12 : decode cX9_solve 12 = .ok (.getfield 21, 3) := by decide +kernel
theorem dX9_solve_15 : decode cX9_solve 15 = .ok (.iconst 0, 1) := by decide +kernel
theorem dX9_solve_16 : decode cX9_solve 16 = .ok (.iconst 5, 1) := by decide +kernel
theorem dX9_solve_17 : decode cX9_solve 17 = .ok (.invokestatic 38, 3) := by decide +kernel
theorem dX9_solve_20 : decode cX9_solve 20 = .ok (.aload_n 0, 1) := by decide +kernel
theorem dX9_solve_21 : decode cX9_solve 21 = .ok (.iconst 0, 1) := by decide +kernel
theorem dX9_solve_22 : decode cX9_solve 22 = .ok (.iconst 0, 1) := by decide +kernel
theorem dX9_solve_23 : decode cX9_solve 23 = .ok (.invokevirtual 44, 3) := by decide +kernel
theorem dX9_solve_26 : decode cX9_solve 26 = .ok (.aload_n 0, 1) := by decide +kernel
theorem dX9_solve_27 : decode cX9_solve 27 = .ok (.getfield 35, 3) := by decide +kernel
theorem dX9_solve_30 : decode cX9_solve 30 = .ok (.ldc 34, 2) := by decide +kernel
theorem dX9_solve_32 : decode cX9_solve 32 = .ok (.if_icmp .ge 7, 3) := by decide +kernel
theorem dX9_solve_35 : decode cX9_solve 35 = .ok (.iconst 1, 1) := by decide +kernel
theorem dX9_solve_36 : decode cX9_solve 36 = .ok (.goto 4, 3) := by decide +kernel
theorem dX9_solve_39 : decode cX9_solve 39 = .ok (.iconst 0, 1) := by decide +kernel
theorem dX9_solve_40 : decode cX9_solve 40 = .ok (.ireturn, 1) := by decide +kernel
set_option maxRecDepth 100000 in
set_option maxHeartbeats 4000000 in
theorem wp_X9_solve {n0 d : Nat} {K : z_K} {I : z_I} {L : z_L} {Q : z_q}  (hL : CLay K) (h : RM0 n0 xX9_tryMarker d [.ref (n0 + 52), .int 0, .int 0] K (zC (zI I 52 7 1000000000) 53 56 0 0 5) L (fun vv I1 L2 => vv = none ∧ Q (some (.int (if ((I1 52 7) : Int32) < 1000000000 then 1 else 0))) I1 L2)) : RM0 n0 xX9_solve (d + 1) [.ref (n0 + 52)] K I L Q := by
  refine z_entry0 (by decide) (Nat.le_of_ble_eq_true rfl) ?_
  change Z n0 xX9_solve (d + 1) 0 0 0 [(0, .ref (n0 + 52))] [] K I L (z_q0 K Q)
  refine z_aload_n 0 dX9_solve_0 rfl ?_
  refine z_ldc 1000000000 dX9_solve_1 wg_1352 ?_
  refine fp_9_35 rfl dX9_solve_3 (co_52 hL).1 (co_52 hL).2 ?_
  refine z_aload_n 0 dX9_solve_6 rfl ?_
  refine fg_9_9 (some 53) rfl dX9_solve_7 (co_52 hL).1 (co_52 hL).2 (ca_53 hL).1 ?_
  refine z_iconst 0 dX9_solve_10 (by decide) ?_
  refine z_aload_n 0 dX9_solve_11 rfl ?_
  refine fg_9_21 (some 56) rfl dX9_solve_12 (co_52 hL).1 (co_52 hL).2 (ca_56 hL).1 ?_
  refine z_iconst 0 dX9_solve_15 (by decide) ?_
  refine z_iconst 5 dX9_solve_16 (by decide) ?_
  refine z_acopy dX9_solve_17 wg_1353 wg_726 wg_725 wg_120 (ca_53 hL).2.1 (ca_53 hL).2.2 (ca_56 hL).2.1 (ca_56 hL).2.2 (by decide) (by decide) (by decide) (by decide) (by decide) (by omega) ?_
  refine z_aload_n 0 dX9_solve_20 rfl ?_
  refine z_iconst 0 dX9_solve_21 (by decide) ?_
  refine z_iconst 0 dX9_solve_22 (by decide) ?_
  refine z_callV0 (As := [.int 0, .int 0]) (st := []) dX9_solve_23 hy_X9_tryMarker (co_52 hL).1 (co_52 hL).2 (by decide) wg_1354 wg_1356 wg_50 (Nat.le_refl _) (Nat.le_of_ble_eq_true rfl) (RM0.mono h ?_)
  clear h
  intro vv I1 L2 h
  obtain ⟨rfl, h⟩ := h
  change Z n0 xX9_solve (d + 1) 0 0 26 [(0, .ref (n0 + 52))] [] K I1 L2 (z_q0 K Q)
  refine z_aload_n 0 dX9_solve_26 rfl ?_
  refine fg_9_35 (I1 52 7) rfl dX9_solve_27 (co_52 hL).1 (co_52 hL).2 rfl ?_
  refine z_ldc 1000000000 dX9_solve_30 wg_1352 ?_
  have key4 : Z n0 xX9_solve (d + 1) 0 0 40 [] [.int (if ((I1 52 7) : Int32) < 1000000000 then 1 else 0)] K I1 L2 (z_q0 K Q) := by
    exact z_zretb dX9_solve_40 rfl (z_bite (by repeat' (first | exact Or.inl rfl | exact Or.inr rfl | split))) ⟨rfl, h⟩
  refine z_icmp_ge 39 dX9_solve_32 (by decide) (fun g3 => ?_) (fun g3 => ?_)
  · refine z_iconst 0 dX9_solve_39 (by decide) ?_
    have ee : ((if ((I1 52 7) : Int32) < 1000000000 then 1 else 0) : Int32) = 0 := by rw [if_neg g3]
    rw [ee] at key4
    clear ee
    refine z_sub [] rfl ?_
    exact key4
  · refine z_iconst 1 dX9_solve_35 (by decide) ?_
    refine z_goto 40 dX9_solve_36 (by decide) ?_
    have ee : ((if ((I1 52 7) : Int32) < 1000000000 then 1 else 0) : Int32) = 1 := by rw [if_pos g3]
    rw [ee] at key4
    clear ee
    refine z_sub [] rfl ?_
    exact key4
theorem dX9_tryMarker_0 : decode cX9_tryMarker 0 = .ok (.iload_n 2, 1) := by decide +kernel
theorem dX9_tryMarker_1 : decode cX9_tryMarker 1 = .ok (.aload_n 0, 1) := by decide +kernel
theorem dX9_tryMarker_2 : decode cX9_tryMarker 2 = .ok (.iload_n 1, 1) := by decide +kernel
theorem dX9_tryMarker_3 : decode cX9_tryMarker 3 = .ok (.invokevirtual 48, 3) := by decide +kernel
theorem dX9_tryMarker_6 : decode cX9_tryMarker 6 = .ok (.iadd, 1) := by decide +kernel
theorem dX9_tryMarker_7 : decode cX9_tryMarker 7 = .ok (.aload_n 0, 1) := by decide +kernel
theorem dX9_tryMarker_8 : decode cX9_tryMarker 8 = .ok (.getfield 35, 3) := by decide +kernel
theorem dX9_tryMarker_11 : decode cX9_tryMarker 11 = .ok (.if_icmp .lt 4, 3) := by decide +kernel
theorem dX9_tryMarker_14 : decode cX9_tryMarker 14 = .ok (.return_, 1) := by decide +kernel
theorem dX9_tryMarker_15 : decode cX9_tryMarker 15 = .ok (.iload_n 1, 1) := by decide +kernel
theorem dX9_tryMarker_16 : decode cX9_tryMarker 16 = .ok (.aload_n 0, 1) := by decide +kernel
theorem dX9_tryMarker_17 : decode cX9_tryMarker 17 = .ok (.getfield 30, 3) := by decide +kernel
theorem dX9_tryMarker_20 : decode cX9_tryMarker 20 = .ok (.if_icmp .lt 24, 3) := by decide +kernel
theorem dX9_tryMarker_23 : decode cX9_tryMarker 23 = .ok (.aload_n 0, 1) := by decide +kernel
theorem dX9_tryMarker_24 : decode cX9_tryMarker 24 = .ok (.iload_n 2, 1) := by decide +kernel
theorem dX9_tryMarker_25 : decode cX9_tryMarker 25 = .ok (.putfield 35, 3) := by decide +kernel
theorem dX9_tryMarker_28 : decode cX9_tryMarker 28 = .ok (.aload_n 0, 1) := by decide +kernel
theorem dX9_tryMarker_29 : decode cX9_tryMarker 29 = .ok (.getfield 24, 3) := by decide +kernel
theorem dX9_tryMarker_32 : decode cX9_tryMarker 32 = .ok (.iconst 0, 1) := by decide +kernel
theorem dX9_tryMarker_33 : decode cX9_tryMarker 33 = .ok (.aload_n 0, 1) := by decide +kernel
theorem dX9_tryMarker_34 : decode cX9_tryMarker 34 = .ok (.getfield 27, 3) := by decide +kernel
theorem dX9_tryMarker_37 : decode cX9_tryMarker 37 = .ok (.iconst 0, 1) := by decide +kernel
theorem dX9_tryMarker_38 : decode cX9_tryMarker 38 = .ok (.bipush 6, 2) := by decide +kernel
theorem dX9_tryMarker_40 : decode cX9_tryMarker 40 = .ok (.invokestatic 38, 3) := by decide +kernel
theorem dX9_tryMarker_43 : decode cX9_tryMarker 43 = .ok (.return_, 1) := by decide +kernel
theorem dX9_tryMarker_44 : decode cX9_tryMarker 44 = .ok (.iconst 0, 1) := by decide +kernel
theorem dX9_tryMarker_45 : decode cX9_tryMarker 45 = .ok (.istore_n 3, 1) := by decide +kernel
theorem dX9_tryMarker_46 : decode cX9_tryMarker 46 = .ok (.iload_n 3, 1) := by decide +kernel
theorem dX9_tryMarker_47 : decode cX9_tryMarker 47 = .ok (.bipush 9, 2) := by decide +kernel
theorem dX9_tryMarker_49 : decode cX9_tryMarker 49 = .ok (.if_icmp .gt 39, 3) := by decide +kernel
theorem dX9_tryMarker_52 : decode cX9_tryMarker 52 = .ok (.aload_n 0, 1) := by decide +kernel
theorem dX9_tryMarker_53 : decode cX9_tryMarker 53 = .ok (.getfield 24, 3) := by decide +kernel
theorem dX9_tryMarker_56 : decode cX9_tryMarker 56 = .ok (.iload_n 1, 1) := by decide +kernel
theorem dX9_tryMarker_57 : decode cX9_tryMarker 57 = .ok (.iload_n 3, 1) := by decide +kernel
theorem dX9_tryMarker_58 : decode cX9_tryMarker 58 = .ok (.iastore, 1) := by decide +kernel
theorem dX9_tryMarker_59 : decode cX9_tryMarker 59 = .ok (.aload_n 0, 1) := by decide +kernel
theorem dX9_tryMarker_60 : decode cX9_tryMarker 60 = .ok (.iload_n 1, 1) := by decide +kernel
theorem dX9_tryMarker_61 : decode cX9_tryMarker 61 = .ok (.iconst 1, 1) := by decide +kernel
theorem dX9_tryMarker_62 : decode cX9_tryMarker 62 = .ok (.iadd, 1) := by decide +kernel
theorem dX9_tryMarker_63 : decode cX9_tryMarker 63 = .ok (.iload_n 2, 1) := by decide +kernel
theorem dX9_tryMarker_64 : decode cX9_tryMarker 64 = .ok (.iload_n 3, 1) := by decide +kernel
theorem dX9_tryMarker_65 : decode cX9_tryMarker 65 = .ok (.aload_n 0, 1) := by decide +kernel
theorem dX9_tryMarker_66 : decode cX9_tryMarker 66 = .ok (.getfield 18, 3) := by decide +kernel
theorem dX9_tryMarker_69 : decode cX9_tryMarker 69 = .ok (.iload_n 1, 1) := by decide +kernel
theorem dX9_tryMarker_70 : decode cX9_tryMarker 70 = .ok (.iaload, 1) := by decide +kernel
theorem dX9_tryMarker_71 : decode cX9_tryMarker 71 = .ok (.imul, 1) := by decide +kernel
theorem dX9_tryMarker_72 : decode cX9_tryMarker 72 = .ok (.iadd, 1) := by decide +kernel
theorem dX9_tryMarker_73 : decode cX9_tryMarker 73 = .ok (.invokevirtual 44, 3) := by decide +kernel
theorem dX9_tryMarker_76 : decode cX9_tryMarker 76 = .ok (.aload_n 0, 1) := by decide +kernel
theorem dX9_tryMarker_77 : decode cX9_tryMarker 77 = .ok (.iload_n 1, 1) := by decide +kernel
theorem dX9_tryMarker_78 : decode cX9_tryMarker 78 = .ok (.iconst (-1), 1) := by decide +kernel
theorem dX9_tryMarker_79 : decode cX9_tryMarker 79 = .ok (.invokevirtual 52, 3) := by decide +kernel
theorem dX9_tryMarker_82 : decode cX9_tryMarker 82 = .ok (.iinc 3 1, 3) := by decide +kernel
theorem dX9_tryMarker_85 : decode cX9_tryMarker 85 = .ok (.goto (-39), 3) := by decide +kernel
theorem dX9_tryMarker_88 : decode cX9_tryMarker 88 = .ok (.aload_n 0, 1) := by decide +kernel
theorem dX9_tryMarker_89 : decode cX9_tryMarker 89 = .ok (.iload_n 1, 1) := by decide +kernel
theorem dX9_tryMarker_90 : decode cX9_tryMarker 90 = .ok (.bipush 10, 2) := by decide +kernel
theorem dX9_tryMarker_92 : decode cX9_tryMarker 92 = .ok (.invokevirtual 52, 3) := by decide +kernel
theorem dX9_tryMarker_95 : decode cX9_tryMarker 95 = .ok (.return_, 1) := by decide +kernel
set_option maxRecDepth 100000 in
set_option maxHeartbeats 4000000 in
theorem wp_X9_tryMarker {n0 d : Nat} {K : z_K} {I : z_I} {L : z_L} {Q : z_q} {p0 : Int32} {p1 : Int32} (hL : CLay K) (h : RM0 n0 xX9_leastMore d [.ref (n0 + 52), .int p0] K I L (fun vv I1 L2 => ∃ r3 : Int32, vv = some (.int r3) ∧ (if ((p1 + r3) : Int32) < (I1 52 7) then (if p0 < (I1 52 3) then Z n0 xX9_tryMarker (d + 1) 0 0 46 [(0, .ref (n0 + 52)), (1, .int p0), (2, .int p1), (3, .int 0)] [] K I1 L2 (z_q0 K Q) else Q none (zC (zI I1 52 7 p1) 57 58 0 0 6) L2) else Q none I1 L2))) : RM0 n0 xX9_tryMarker (d + 1) [.ref (n0 + 52), .int p0, .int p1] K I L Q := by
  refine z_entry0 (by decide) (Nat.le_of_ble_eq_true rfl) ?_
  change Z n0 xX9_tryMarker (d + 1) 0 0 0 [(0, .ref (n0 + 52)), (1, .int p0), (2, .int p1)] [] K I L (z_q0 K Q)
  refine z_iload_n 2 dX9_tryMarker_0 rfl ?_
  refine z_aload_n 0 dX9_tryMarker_1 rfl ?_
  refine z_iload_n 1 dX9_tryMarker_2 rfl ?_
  refine z_callV0 (As := [.int p0]) (st := [.int p1]) dX9_tryMarker_3 hy_X9_leastMore (co_52 hL).1 (co_52 hL).2 (by decide) wg_1358 wg_1360 wg_51 (Nat.le_refl _) (Nat.le_of_ble_eq_true rfl) (RM0.mono h ?_)
  clear h
  intro vv I1 L2 h
  obtain ⟨r3, rfl, h⟩ := h
  change Z n0 xX9_tryMarker (d + 1) 0 0 6 [(0, .ref (n0 + 52)), (1, .int p0), (2, .int p1)] [.int r3, .int p1] K I1 L2 (z_q0 K Q)
  refine z_iadd dX9_tryMarker_6 ?_
  refine z_aload_n 0 dX9_tryMarker_7 rfl ?_
  refine fg_9_35 (I1 52 7) rfl dX9_tryMarker_8 (co_52 hL).1 (co_52 hL).2 rfl ?_
  refine z_icmp_lt 15 dX9_tryMarker_11 (by decide) (fun g4 => ?_) (fun g4 => ?_)
  · rw [if_pos g4] at h
    refine z_iload_n 1 dX9_tryMarker_15 rfl ?_
    refine z_aload_n 0 dX9_tryMarker_16 rfl ?_
    refine fg_9_30 (I1 52 3) rfl dX9_tryMarker_17 (co_52 hL).1 (co_52 hL).2 rfl ?_
    refine z_icmp_lt 44 dX9_tryMarker_20 (by decide) (fun g5 => ?_) (fun g5 => ?_)
    · rw [if_pos g5] at h
      refine z_iconst 0 dX9_tryMarker_44 (by decide) ?_
      refine z_istore_n [1, 2, 3, 0] [(0, .ref (n0 + 52)), (1, .int p0), (2, .int p1), (3, .int 0)] dX9_tryMarker_45 (by decide) rfl ?_
      exact h
    · rw [if_neg g5] at h
      refine z_aload_n 0 dX9_tryMarker_23 rfl ?_
      refine z_iload_n 2 dX9_tryMarker_24 rfl ?_
      refine fp_9_35 rfl dX9_tryMarker_25 (co_52 hL).1 (co_52 hL).2 ?_
      refine z_aload_n 0 dX9_tryMarker_28 rfl ?_
      refine fg_9_24 (some 57) rfl dX9_tryMarker_29 (co_52 hL).1 (co_52 hL).2 (ca_57 hL).1 ?_
      refine z_iconst 0 dX9_tryMarker_32 (by decide) ?_
      refine z_aload_n 0 dX9_tryMarker_33 rfl ?_
      refine fg_9_27 (some 58) rfl dX9_tryMarker_34 (co_52 hL).1 (co_52 hL).2 (ca_58 hL).1 ?_
      refine z_iconst 0 dX9_tryMarker_37 (by decide) ?_
      refine z_bipush 6 dX9_tryMarker_38 (by decide) ?_
      refine z_acopy dX9_tryMarker_40 wg_1353 wg_726 wg_725 wg_120 (ca_57 hL).2.1 (ca_57 hL).2.2 (ca_58 hL).2.1 (ca_58 hL).2.2 (by decide) (by decide) (by decide) (by decide) (by decide) (by omega) ?_
      exact z_vret dX9_tryMarker_43 rfl ⟨rfl, h⟩
  · rw [if_neg g4] at h
    exact z_vret dX9_tryMarker_14 rfl ⟨rfl, h⟩
set_option maxRecDepth 100000 in
set_option maxHeartbeats 4000000 in
theorem wp_X9_tryMarker_46 {n0 d : Nat} {rc rs : Nat} {K : z_K} {I : z_I} {L : z_L} {Q : z_q} {a1 : Int32} {a2 : Int32} {a3 : Int32} (hL : CLay K) (h : (if 9 < a3 then RM0 n0 xX9_changeLacks d [.ref (n0 + 52), .int a1, .int 10] K I L (fun vv I2 L3 => vv = none ∧ Q none I2 L3) else vp_in a1 6 ∧ RM0 n0 xX9_tryMarker d [.ref (n0 + 52), .int (a1 + 1), .int (a2 + (a3 * (I 55 a1.toNatClampNeg)))] K (zI I 57 a1.toNatClampNeg a3) L (fun vv I5 L6 => vv = none ∧ RM0 n0 xX9_changeLacks d [.ref (n0 + 52), .int a1, .int (-1)] K I5 L6 (fun vv I7 L8 => vv = none ∧ Z n0 xX9_tryMarker (d + 1) rc rs 46 [(0, .ref (n0 + 52)), (1, .int a1), (2, .int a2), (3, .int (a3 + 1))] [] K I7 L8 (z_q0 K Q))))) : Z n0 xX9_tryMarker (d + 1) rc rs 46 [(0, .ref (n0 + 52)), (1, .int a1), (2, .int a2), (3, .int a3)] [] K I L (z_q0 K Q) := by
  refine z_iload_n 3 dX9_tryMarker_46 rfl ?_
  refine z_bipush 9 dX9_tryMarker_47 (by decide) ?_
  refine z_icmp_gt 88 dX9_tryMarker_49 (by decide) (fun g1 => ?_) (fun g1 => ?_)
  · rw [if_pos g1] at h
    refine z_aload_n 0 dX9_tryMarker_88 rfl ?_
    refine z_iload_n 1 dX9_tryMarker_89 rfl ?_
    refine z_bipush 10 dX9_tryMarker_90 (by decide) ?_
    refine z_callV0 (As := [.int a1, .int 10]) (st := []) dX9_tryMarker_92 hy_X9_changeLacks (co_52 hL).1 (co_52 hL).2 (by decide) wg_1368 wg_1370 wg_53 (Nat.le_refl _) (Nat.le_of_ble_eq_true rfl) (RM0.mono h ?_)
    clear h
    intro vv I2 L3 h
    obtain ⟨rfl, h⟩ := h
    change Z n0 xX9_tryMarker (d + 1) rc rs 95 [(0, .ref (n0 + 52)), (1, .int a1), (2, .int a2), (3, .int a3)] [] K I2 L3 (z_q0 K Q)
    exact z_vret dX9_tryMarker_95 rfl ⟨rfl, h⟩
  · rw [if_neg g1] at h
    refine z_aload_n 0 dX9_tryMarker_52 rfl ?_
    refine fg_9_24 (some 57) rfl dX9_tryMarker_53 (co_52 hL).1 (co_52 hL).2 (ca_57 hL).1 ?_
    refine z_iload_n 1 dX9_tryMarker_56 rfl ?_
    refine z_iload_n 3 dX9_tryMarker_57 rfl ?_
    obtain ⟨o4, h⟩ := h
    refine z_iast dX9_tryMarker_58 (ca_57 hL).2.1 (ca_57 hL).2.2 o4 ?_
    refine z_aload_n 0 dX9_tryMarker_59 rfl ?_
    refine z_iload_n 1 dX9_tryMarker_60 rfl ?_
    refine z_iconst 1 dX9_tryMarker_61 (by decide) ?_
    refine z_iadd dX9_tryMarker_62 ?_
    refine z_iload_n 2 dX9_tryMarker_63 rfl ?_
    refine z_iload_n 3 dX9_tryMarker_64 rfl ?_
    refine z_aload_n 0 dX9_tryMarker_65 rfl ?_
    refine fg_9_18 (some 55) rfl dX9_tryMarker_66 (co_52 hL).1 (co_52 hL).2 (ca_55 hL).1 ?_
    refine z_iload_n 1 dX9_tryMarker_69 rfl ?_
    refine z_iald (I 55 a1.toNatClampNeg) dX9_tryMarker_70 (ca_55 hL).2.1 (ca_55 hL).2.2 o4 rfl ?_
    refine z_imul dX9_tryMarker_71 ?_
    refine z_iadd dX9_tryMarker_72 ?_
    refine z_callV0 (As := [.int (a1 + 1), .int (a2 + (a3 * (I 55 a1.toNatClampNeg)))]) (st := []) dX9_tryMarker_73 hy_X9_tryMarker (co_52 hL).1 (co_52 hL).2 (by decide) wg_1354 wg_1356 wg_50 (Nat.le_refl _) (Nat.le_of_ble_eq_true rfl) (RM0.mono h ?_)
    clear h
    intro vv I5 L6 h
    obtain ⟨rfl, h⟩ := h
    change Z n0 xX9_tryMarker (d + 1) rc rs 76 [(0, .ref (n0 + 52)), (1, .int a1), (2, .int a2), (3, .int a3)] [] K I5 L6 (z_q0 K Q)
    refine z_aload_n 0 dX9_tryMarker_76 rfl ?_
    refine z_iload_n 1 dX9_tryMarker_77 rfl ?_
    refine z_iconst (-1) dX9_tryMarker_78 (by decide) ?_
    refine z_callV0 (As := [.int a1, .int (-1)]) (st := []) dX9_tryMarker_79 hy_X9_changeLacks (co_52 hL).1 (co_52 hL).2 (by decide) wg_1368 wg_1370 wg_53 (Nat.le_refl _) (Nat.le_of_ble_eq_true rfl) (RM0.mono h ?_)
    clear h
    intro vv I7 L8 h
    obtain ⟨rfl, h⟩ := h
    change Z n0 xX9_tryMarker (d + 1) rc rs 82 [(0, .ref (n0 + 52)), (1, .int a1), (2, .int a2), (3, .int a3)] [] K I7 L8 (z_q0 K Q)
    refine z_iinc (j := 3) (a3 + 1) [1, 2, 3, 0] [(0, .ref (n0 + 52)), (1, .int a1), (2, .int a2), (3, .int (a3 + 1))] dX9_tryMarker_82 rfl rfl (by decide) rfl ?_
    refine z_goto 46 dX9_tryMarker_85 (by decide) ?_
    exact h
theorem dX9_changeLacks_0 : decode cX9_changeLacks 0 = .ok (.iconst 0, 1) := by decide +kernel
theorem dX9_changeLacks_1 : decode cX9_changeLacks 1 = .ok (.istore_n 3, 1) := by decide +kernel
theorem dX9_changeLacks_2 : decode cX9_changeLacks 2 = .ok (.iload_n 3, 1) := by decide +kernel
theorem dX9_changeLacks_3 : decode cX9_changeLacks 3 = .ok (.iconst 5, 1) := by decide +kernel
theorem dX9_changeLacks_4 : decode cX9_changeLacks 4 = .ok (.if_icmp .ge 30, 3) := by decide +kernel
theorem dX9_changeLacks_7 : decode cX9_changeLacks 7 = .ok (.aload_n 0, 1) := by decide +kernel
theorem dX9_changeLacks_8 : decode cX9_changeLacks 8 = .ok (.getfield 21, 3) := by decide +kernel
theorem dX9_changeLacks_11 : decode cX9_changeLacks 11 = .ok (.iload_n 3, 1) := by decide +kernel
theorem dX9_changeLacks_12 : decode cX9_changeLacks 12 = .ok (.dup2, 1) := by decide +kernel
theorem dX9_changeLacks_13 : decode cX9_changeLacks 13 = .ok (.iaload, 1) := by decide +kernel
theorem dX9_changeLacks_14 : decode cX9_changeLacks 14 = .ok (.iload_n 2, 1) := by decide +kernel
theorem dX9_changeLacks_15 : decode cX9_changeLacks 15 = .ok (.aload_n 0, 1) := by decide +kernel
theorem dX9_changeLacks_16 : decode cX9_changeLacks 16 = .ok (.getfield 15, 3) := by decide +kernel
theorem dX9_changeLacks_19 : decode cX9_changeLacks 19 = .ok (.iload_n 1, 1) := by decide +kernel
theorem dX9_changeLacks_20 : decode cX9_changeLacks 20 = .ok (.iconst 5, 1) := by decide +kernel
theorem dX9_changeLacks_21 : decode cX9_changeLacks 21 = .ok (.imul, 1) := by decide +kernel
theorem dX9_changeLacks_22 : decode cX9_changeLacks 22 = .ok (.iload_n 3, 1) := by decide +kernel
theorem dX9_changeLacks_23 : decode cX9_changeLacks 23 = .ok (.iadd, 1) := by decide +kernel
theorem dX9_changeLacks_24 : decode cX9_changeLacks 24 = .ok (.iaload, 1) := by decide +kernel
theorem dX9_changeLacks_25 : decode cX9_changeLacks 25 = .ok (.imul, 1) := by decide +kernel
theorem dX9_changeLacks_26 : decode cX9_changeLacks 26 = .ok (.iadd, 1) := by decide +kernel
theorem dX9_changeLacks_27 : decode cX9_changeLacks 27 = .ok (.iastore, 1) := by decide +kernel
theorem dX9_changeLacks_28 : decode cX9_changeLacks 28 = .ok (.iinc 3 1, 3) := by decide +kernel
theorem dX9_changeLacks_31 : decode cX9_changeLacks 31 = .ok (.goto (-29), 3) := by decide +kernel
theorem dX9_changeLacks_34 : decode cX9_changeLacks 34 = .ok (.return_, 1) := by decide +kernel
set_option maxRecDepth 100000 in
set_option maxHeartbeats 4000000 in
theorem wp_X9_changeLacks {n0 d : Nat} {K : z_K} {I : z_I} {L : z_L} {Q : z_q} {p0 : Int32} {p1 : Int32} (hL : CLay K) (h : Z n0 xX9_changeLacks d 0 0 2 [(0, .ref (n0 + 52)), (1, .int p0), (2, .int p1), (3, .int 0)] [] K I L (z_q0 K Q)) : RM0 n0 xX9_changeLacks d [.ref (n0 + 52), .int p0, .int p1] K I L Q := by
  refine z_entry0 (by decide) (Nat.le_of_ble_eq_true rfl) ?_
  change Z n0 xX9_changeLacks d 0 0 0 [(0, .ref (n0 + 52)), (1, .int p0), (2, .int p1)] [] K I L (z_q0 K Q)
  refine z_iconst 0 dX9_changeLacks_0 (by decide) ?_
  refine z_istore_n [1, 2, 3, 0] [(0, .ref (n0 + 52)), (1, .int p0), (2, .int p1), (3, .int 0)] dX9_changeLacks_1 (by decide) rfl ?_
  exact h
set_option maxRecDepth 100000 in
set_option maxHeartbeats 4000000 in
theorem wp_X9_changeLacks_2 {n0 d : Nat} {rc rs : Nat} {K : z_K} {I : z_I} {L : z_L} {Q : z_q} {a1 : Int32} {a2 : Int32} {a3 : Int32} (hL : CLay K) (h : (if a3 < 5 then vp_in a3 5 ∧ vp_in ((a1 * 5) + a3) 30 ∧ Z n0 xX9_changeLacks d rc rs 2 [(0, .ref (n0 + 52)), (1, .int a1), (2, .int a2), (3, .int (a3 + 1))] [] K (zI I 56 a3.toNatClampNeg ((I 56 a3.toNatClampNeg) + (a2 * (I 54 (((a1 * 5) + a3).toNatClampNeg))))) L (z_q0 K Q) else Q none I L)) : Z n0 xX9_changeLacks d rc rs 2 [(0, .ref (n0 + 52)), (1, .int a1), (2, .int a2), (3, .int a3)] [] K I L (z_q0 K Q) := by
  refine z_iload_n 3 dX9_changeLacks_2 rfl ?_
  refine z_iconst 5 dX9_changeLacks_3 (by decide) ?_
  refine z_icmp_ge 34 dX9_changeLacks_4 (by decide) (fun g1 => ?_) (fun g1 => ?_)
  · rw [if_neg g1] at h
    exact z_vret dX9_changeLacks_34 rfl ⟨rfl, h⟩
  · rw [if_pos g1] at h
    refine z_aload_n 0 dX9_changeLacks_7 rfl ?_
    refine fg_9_21 (some 56) rfl dX9_changeLacks_8 (co_52 hL).1 (co_52 hL).2 (ca_56 hL).1 ?_
    refine z_iload_n 3 dX9_changeLacks_11 rfl ?_
    refine z_dup2 dX9_changeLacks_12 rfl rfl ?_
    obtain ⟨o2, h⟩ := h
    refine z_iald (I 56 a3.toNatClampNeg) dX9_changeLacks_13 (ca_56 hL).2.1 (ca_56 hL).2.2 o2 rfl ?_
    refine z_iload_n 2 dX9_changeLacks_14 rfl ?_
    refine z_aload_n 0 dX9_changeLacks_15 rfl ?_
    refine fg_9_15 (some 54) rfl dX9_changeLacks_16 (co_52 hL).1 (co_52 hL).2 (ca_54 hL).1 ?_
    refine z_iload_n 1 dX9_changeLacks_19 rfl ?_
    refine z_iconst 5 dX9_changeLacks_20 (by decide) ?_
    refine z_imul dX9_changeLacks_21 ?_
    refine z_iload_n 3 dX9_changeLacks_22 rfl ?_
    refine z_iadd dX9_changeLacks_23 ?_
    obtain ⟨o3, h⟩ := h
    refine z_iald (I 54 (((a1 * 5) + a3).toNatClampNeg)) dX9_changeLacks_24 (ca_54 hL).2.1 (ca_54 hL).2.2 o3 rfl ?_
    refine z_imul dX9_changeLacks_25 ?_
    refine z_iadd dX9_changeLacks_26 ?_
    refine z_iast dX9_changeLacks_27 (ca_56 hL).2.1 (ca_56 hL).2.2 o2 ?_
    refine z_iinc (j := 3) (a3 + 1) [1, 2, 3, 0] [(0, .ref (n0 + 52)), (1, .int a1), (2, .int a2), (3, .int (a3 + 1))] dX9_changeLacks_28 rfl rfl (by decide) rfl ?_
    refine z_goto 2 dX9_changeLacks_31 (by decide) ?_
    exact h
theorem dX9_leastMore_0 : decode cX9_leastMore 0 = .ok (.iconst 0, 1) := by decide +kernel
theorem dX9_leastMore_1 : decode cX9_leastMore 1 = .ok (.istore_n 2, 1) := by decide +kernel
theorem dX9_leastMore_2 : decode cX9_leastMore 2 = .ok (.iconst 0, 1) := by decide +kernel
theorem dX9_leastMore_3 : decode cX9_leastMore 3 = .ok (.istore_n 3, 1) := by decide +kernel
theorem dX9_leastMore_4 : decode cX9_leastMore 4 = .ok (.iload_n 3, 1) := by decide +kernel
theorem dX9_leastMore_5 : decode cX9_leastMore 5 = .ok (.iconst 5, 1) := by decide +kernel
theorem dX9_leastMore_6 : decode cX9_leastMore 6 = .ok (.if_icmp .ge 29, 3) := by decide +kernel
theorem dX9_leastMore_9 : decode cX9_leastMore 9 = .ok (.aload_n 0, 1) := by decide +kernel
theorem dX9_leastMore_10 : decode cX9_leastMore 10 = .ok (.getfield 21, 3) := by decide +kernel
theorem dX9_leastMore_13 : decode cX9_leastMore 13 = .ok (.iload_n 3, 1) := by decide +kernel
theorem dX9_leastMore_14 : decode cX9_leastMore 14 = .ok (.iaload, 1) := by decide +kernel
theorem dX9_leastMore_15 : decode cX9_leastMore 15 = .ok (.ifCond .le 14, 3) := by decide +kernel
theorem dX9_leastMore_18 : decode cX9_leastMore 18 = .ok (.iload_n 2, 1) := by decide +kernel
theorem dX9_leastMore_19 : decode cX9_leastMore 19 = .ok (.aload_n 0, 1) := by decide +kernel
theorem dX9_leastMore_20 : decode cX9_leastMore 20 = .ok (.iload_n 3, 1) := by decide +kernel
theorem dX9_leastMore_21 : decode cX9_leastMore 21 = .ok (.iload_n 1, 1) := by decide +kernel
theorem dX9_leastMore_22 : decode cX9_leastMore 22 = .ok (.invokevirtual 55, 3) := by decide +kernel
theorem dX9_leastMore_25 : decode cX9_leastMore 25 = .ok (.invokestatic 59, 3) := by decide +kernel
theorem dX9_leastMore_28 : decode cX9_leastMore 28 = .ok (.istore_n 2, 1) := by decide +kernel
theorem dX9_leastMore_29 : decode cX9_leastMore 29 = .ok (.iinc 3 1, 3) := by decide +kernel
theorem dX9_leastMore_32 : decode cX9_leastMore 32 = .ok (.goto (-28), 3) := by decide +kernel
theorem dX9_leastMore_35 : decode cX9_leastMore 35 = .ok (.iload_n 2, 1) := by decide +kernel
theorem dX9_leastMore_36 : decode cX9_leastMore 36 = .ok (.ireturn, 1) := by decide +kernel
set_option maxRecDepth 100000 in
set_option maxHeartbeats 4000000 in
theorem wp_X9_leastMore {n0 d : Nat} {K : z_K} {I : z_I} {L : z_L} {Q : z_q} {p0 : Int32} (hL : CLay K) (h : Z n0 xX9_leastMore (d + 1) 0 0 4 [(0, .ref (n0 + 52)), (1, .int p0), (2, .int 0), (3, .int 0)] [] K I L (z_q0 K Q)) : RM0 n0 xX9_leastMore (d + 1) [.ref (n0 + 52), .int p0] K I L Q := by
  refine z_entry0 (by decide) (Nat.le_of_ble_eq_true rfl) ?_
  change Z n0 xX9_leastMore (d + 1) 0 0 0 [(0, .ref (n0 + 52)), (1, .int p0)] [] K I L (z_q0 K Q)
  refine z_iconst 0 dX9_leastMore_0 (by decide) ?_
  refine z_istore_n [1, 2, 0] [(0, .ref (n0 + 52)), (1, .int p0), (2, .int 0)] dX9_leastMore_1 (by decide) rfl ?_
  refine z_iconst 0 dX9_leastMore_2 (by decide) ?_
  refine z_istore_n [1, 2, 3, 0] [(0, .ref (n0 + 52)), (1, .int p0), (2, .int 0), (3, .int 0)] dX9_leastMore_3 (by decide) rfl ?_
  exact h
set_option maxRecDepth 100000 in
set_option maxHeartbeats 4000000 in
theorem wp_X9_leastMore_4 {n0 d : Nat} {rc rs : Nat} {K : z_K} {I : z_I} {L : z_L} {Q : z_q} {a1 : Int32} {a2 : Int32} {a3 : Int32} (hL : CLay K) (h : (if a3 < 5 then vp_in a3 5 ∧ (if 0 < ((I 56 a3.toNatClampNeg) : Int32) then RM0 n0 xX9_leastFor d [.ref (n0 + 52), .int a3, .int a1] K I L (fun vv I4 L5 => ∃ r6 : Int32, vv = some (.int r6) ∧ Z n0 xX9_leastMore (d + 1) rc rs 4 [(0, .ref (n0 + 52)), (1, .int a1), (2, .int (if a2 < r6 then r6 else a2)), (3, .int (a3 + 1))] [] K I4 L5 (z_q0 K Q)) else Z n0 xX9_leastMore (d + 1) rc rs 4 [(0, .ref (n0 + 52)), (1, .int a1), (2, .int a2), (3, .int (a3 + 1))] [] K I L (z_q0 K Q)) else Q (some (.int a2)) I L)) : Z n0 xX9_leastMore (d + 1) rc rs 4 [(0, .ref (n0 + 52)), (1, .int a1), (2, .int a2), (3, .int a3)] [] K I L (z_q0 K Q) := by
  refine z_iload_n 3 dX9_leastMore_4 rfl ?_
  refine z_iconst 5 dX9_leastMore_5 (by decide) ?_
  refine z_icmp_ge 35 dX9_leastMore_6 (by decide) (fun g1 => ?_) (fun g1 => ?_)
  · rw [if_neg g1] at h
    refine z_iload_n 2 dX9_leastMore_35 rfl ?_
    exact z_iret dX9_leastMore_36 rfl ⟨rfl, h⟩
  · rw [if_pos g1] at h
    refine z_aload_n 0 dX9_leastMore_9 rfl ?_
    refine fg_9_21 (some 56) rfl dX9_leastMore_10 (co_52 hL).1 (co_52 hL).2 (ca_56 hL).1 ?_
    refine z_iload_n 3 dX9_leastMore_13 rfl ?_
    obtain ⟨o2, h⟩ := h
    refine z_iald (I 56 a3.toNatClampNeg) dX9_leastMore_14 (ca_56 hL).2.1 (ca_56 hL).2.2 o2 rfl ?_
    refine z_if_le 29 dX9_leastMore_15 (by decide) (fun g3 => ?_) (fun g3 => ?_)
    · rw [if_neg g3] at h
      refine z_iinc (j := 3) (a3 + 1) [1, 2, 3, 0] [(0, .ref (n0 + 52)), (1, .int a1), (2, .int a2), (3, .int (a3 + 1))] dX9_leastMore_29 rfl rfl (by decide) rfl ?_
      refine z_goto 4 dX9_leastMore_32 (by decide) ?_
      exact h
    · rw [if_pos g3] at h
      refine z_iload_n 2 dX9_leastMore_18 rfl ?_
      refine z_aload_n 0 dX9_leastMore_19 rfl ?_
      refine z_iload_n 3 dX9_leastMore_20 rfl ?_
      refine z_iload_n 1 dX9_leastMore_21 rfl ?_
      refine z_callV0 (As := [.int a3, .int a1]) (st := [.int a2]) dX9_leastMore_22 hy_X9_leastFor (co_52 hL).1 (co_52 hL).2 (by decide) wg_1362 wg_1364 wg_52 (Nat.le_refl _) (Nat.le_of_ble_eq_true rfl) (RM0.mono h ?_)
      clear h
      intro vv I4 L5 h
      obtain ⟨r6, rfl, h⟩ := h
      change Z n0 xX9_leastMore (d + 1) rc rs 25 [(0, .ref (n0 + 52)), (1, .int a1), (2, .int a2), (3, .int a3)] [.int r6, .int a2] K I4 L5 (z_q0 K Q)
      refine z_mmax dX9_leastMore_25 wg_1367 (by omega) (Nat.le_of_ble_eq_true rfl) ?_
      refine z_istore_n [1, 2, 0, 3] [(0, .ref (n0 + 52)), (1, .int a1), (2, .int (if a2 < r6 then r6 else a2)), (3, .int a3)] dX9_leastMore_28 (by decide) rfl ?_
      refine z_iinc (j := 3) (a3 + 1) [1, 2, 3, 0] [(0, .ref (n0 + 52)), (1, .int a1), (2, .int (if a2 < r6 then r6 else a2)), (3, .int (a3 + 1))] dX9_leastMore_29 rfl rfl (by decide) rfl ?_
      refine z_goto 4 dX9_leastMore_32 (by decide) ?_
      exact h
theorem dX9_leastFor_0 : decode cX9_leastFor 0 = .ok (.ldc 34, 2) := by decide +kernel
theorem dX9_leastFor_2 : decode cX9_leastFor 2 = .ok (.istore_n 3, 1) := by decide +kernel
theorem dX9_leastFor_3 : decode cX9_leastFor 3 = .ok (.iconst 0, 1) := by decide +kernel
theorem dX9_leastFor_4 : decode cX9_leastFor 4 = .ok (.istore 4, 2) := by decide +kernel
theorem dX9_leastFor_6 : decode cX9_leastFor 6 = .ok (.iload_n 2, 1) := by decide +kernel
theorem dX9_leastFor_7 : decode cX9_leastFor 7 = .ok (.istore 5, 2) := by decide +kernel
theorem dX9_leastFor_9 : decode cX9_leastFor 9 = .ok (.iload 5, 2) := by decide +kernel
theorem dX9_leastFor_11 : decode cX9_leastFor 11 = .ok (.aload_n 0, 1) := by decide +kernel
theorem dX9_leastFor_12 : decode cX9_leastFor 12 = .ok (.getfield 30, 3) := by decide +kernel
theorem dX9_leastFor_15 : decode cX9_leastFor 15 = .ok (.if_icmp .ge 67, 3) := by decide +kernel
theorem dX9_leastFor_18 : decode cX9_leastFor 18 = .ok (.aload_n 0, 1) := by decide +kernel
theorem dX9_leastFor_19 : decode cX9_leastFor 19 = .ok (.getfield 15, 3) := by decide +kernel
theorem dX9_leastFor_22 : decode cX9_leastFor 22 = .ok (.iload 5, 2) := by decide +kernel
theorem dX9_leastFor_24 : decode cX9_leastFor 24 = .ok (.iconst 5, 1) := by decide +kernel
theorem dX9_leastFor_25 : decode cX9_leastFor 25 = .ok (.imul, 1) := by decide +kernel
theorem dX9_leastFor_26 : decode cX9_leastFor 26 = .ok (.iload_n 1, 1) := by decide +kernel
theorem dX9_leastFor_27 : decode cX9_leastFor 27 = .ok (.iadd, 1) := by decide +kernel
theorem dX9_leastFor_28 : decode cX9_leastFor 28 = .ok (.iaload, 1) := by decide +kernel
theorem dX9_leastFor_29 : decode cX9_leastFor 29 = .ok (.istore 6, 2) := by decide +kernel
theorem dX9_leastFor_31 : decode cX9_leastFor 31 = .ok (.iload 6, 2) := by decide +kernel
theorem dX9_leastFor_33 : decode cX9_leastFor 33 = .ok (.ifCond .ne 6, 3) := by decide +kernel
theorem dX9_leastFor_36 : decode cX9_leastFor 36 = .ok (.goto 40, 3) := by decide +kernel
theorem dX9_leastFor_39 : decode cX9_leastFor 39 = .ok (.iload 4, 2) := by decide +kernel
theorem dX9_leastFor_41 : decode cX9_leastFor 41 = .ok (.iload 6, 2) := by decide +kernel
theorem dX9_leastFor_43 : decode cX9_leastFor 43 = .ok (.bipush 9, 2) := by decide +kernel
theorem dX9_leastFor_45 : decode cX9_leastFor 45 = .ok (.imul, 1) := by decide +kernel
theorem dX9_leastFor_46 : decode cX9_leastFor 46 = .ok (.iadd, 1) := by decide +kernel
theorem dX9_leastFor_47 : decode cX9_leastFor 47 = .ok (.istore 4, 2) := by decide +kernel
theorem dX9_leastFor_49 : decode cX9_leastFor 49 = .ok (.iload_n 3, 1) := by decide +kernel
theorem dX9_leastFor_50 : decode cX9_leastFor 50 = .ok (.aload_n 0, 1) := by decide +kernel
theorem dX9_leastFor_51 : decode cX9_leastFor 51 = .ok (.getfield 21, 3) := by decide +kernel
theorem dX9_leastFor_54 : decode cX9_leastFor 54 = .ok (.iload_n 1, 1) := by decide +kernel
theorem dX9_leastFor_55 : decode cX9_leastFor 55 = .ok (.iaload, 1) := by decide +kernel
theorem dX9_leastFor_56 : decode cX9_leastFor 56 = .ok (.aload_n 0, 1) := by decide +kernel
theorem dX9_leastFor_57 : decode cX9_leastFor 57 = .ok (.getfield 18, 3) := by decide +kernel
theorem dX9_leastFor_60 : decode cX9_leastFor 60 = .ok (.iload 5, 2) := by decide +kernel
theorem dX9_leastFor_62 : decode cX9_leastFor 62 = .ok (.iaload, 1) := by decide +kernel
theorem dX9_leastFor_63 : decode cX9_leastFor 63 = .ok (.imul, 1) := by decide +kernel
theorem dX9_leastFor_64 : decode cX9_leastFor 64 = .ok (.iload 6, 2) := by decide +kernel
theorem dX9_leastFor_66 : decode cX9_leastFor 66 = .ok (.iadd, 1) := by decide +kernel
theorem dX9_leastFor_67 : decode cX9_leastFor 67 = .ok (.iconst 1, 1) := by decide +kernel
theorem dX9_leastFor_68 : decode cX9_leastFor 68 = .ok (.isub, 1) := by decide +kernel
theorem dX9_leastFor_69 : decode cX9_leastFor 69 = .ok (.iload 6, 2) := by decide +kernel
theorem dX9_leastFor_71 : decode cX9_leastFor 71 = .ok (.idiv, 1) := by decide +kernel
theorem dX9_leastFor_72 : decode cX9_leastFor 72 = .ok (.invokestatic 64, 3) := by decide +kernel
theorem dX9_leastFor_75 : decode cX9_leastFor 75 = .ok (.istore_n 3, 1) := by decide +kernel
theorem dX9_leastFor_76 : decode cX9_leastFor 76 = .ok (.iinc 5 1, 3) := by decide +kernel
theorem dX9_leastFor_79 : decode cX9_leastFor 79 = .ok (.goto (-70), 3) := by decide +kernel
theorem dX9_leastFor_82 : decode cX9_leastFor 82 = .ok (.iload 4, 2) := by decide +kernel
theorem dX9_leastFor_84 : decode cX9_leastFor 84 = .ok (.aload_n 0, 1) := by decide +kernel
theorem dX9_leastFor_85 : decode cX9_leastFor 85 = .ok (.getfield 21, 3) := by decide +kernel
theorem dX9_leastFor_88 : decode cX9_leastFor 88 = .ok (.iload_n 1, 1) := by decide +kernel
theorem dX9_leastFor_89 : decode cX9_leastFor 89 = .ok (.iaload, 1) := by decide +kernel
theorem dX9_leastFor_90 : decode cX9_leastFor 90 = .ok (.if_icmp .ge 8, 3) := by decide +kernel
theorem dX9_leastFor_93 : decode cX9_leastFor 93 = .ok (.ldc 34, 2) := by decide +kernel
theorem dX9_leastFor_95 : decode cX9_leastFor 95 = .ok (.goto 4, 3) := by decide +kernel
theorem dX9_leastFor_98 : decode cX9_leastFor 98 = .ok (.iload_n 3, 1) := by decide +kernel
theorem dX9_leastFor_99 : decode cX9_leastFor 99 = .ok (.ireturn, 1) := by decide +kernel
set_option maxRecDepth 100000 in
set_option maxHeartbeats 4000000 in
theorem wp_X9_leastFor {n0 d : Nat} {K : z_K} {I : z_I} {L : z_L} {Q : z_q} {p0 : Int32} {p1 : Int32} (hL : CLay K) (h : Z n0 xX9_leastFor (d + 1) 0 0 9 [(0, .ref (n0 + 52)), (1, .int p0), (3, .int 1000000000), (4, .int 0), (5, .int p1)] [] K I L (z_q0 K Q)) : RM0 n0 xX9_leastFor (d + 1) [.ref (n0 + 52), .int p0, .int p1] K I L Q := by
  refine z_entry0 (by decide) (Nat.le_of_ble_eq_true rfl) ?_
  change Z n0 xX9_leastFor (d + 1) 0 0 0 [(0, .ref (n0 + 52)), (1, .int p0), (2, .int p1)] [] K I L (z_q0 K Q)
  refine z_ldc 1000000000 dX9_leastFor_0 wg_1352 ?_
  refine z_istore_n [1, 2, 3, 0] [(0, .ref (n0 + 52)), (1, .int p0), (2, .int p1), (3, .int 1000000000)] dX9_leastFor_2 (by decide) rfl ?_
  refine z_iconst 0 dX9_leastFor_3 (by decide) ?_
  refine z_istore [1, 2, 3, 4, 0] [(0, .ref (n0 + 52)), (1, .int p0), (2, .int p1), (3, .int 1000000000), (4, .int 0)] dX9_leastFor_4 (by decide) rfl ?_
  refine z_iload_n 2 dX9_leastFor_6 rfl ?_
  refine z_istore [1, 2, 3, 4, 5, 0] [(0, .ref (n0 + 52)), (1, .int p0), (2, .int p1), (3, .int 1000000000), (4, .int 0), (5, .int p1)] dX9_leastFor_7 (by decide) rfl ?_
  refine z_sub [0, 1, 3, 4, 5] rfl ?_
  exact h
set_option maxRecDepth 100000 in
set_option maxHeartbeats 4000000 in
theorem wp_X9_leastFor_9 {n0 d : Nat} {rc rs : Nat} {K : z_K} {I : z_I} {L : z_L} {Q : z_q} {a1 : Int32} {a3 : Int32} {a4 : Int32} {a5 : Int32} (hL : CLay K) (h : (if a5 < (I 52 3) then vp_in ((a5 * 5) + a1) 30 ∧ (if ((I 54 (((a5 * 5) + a1).toNatClampNeg)) : Int32) = 0 then Z n0 xX9_leastFor (d + 1) rc rs 9 [(0, .ref (n0 + 52)), (1, .int a1), (3, .int a3), (4, .int a4), (5, .int (a5 + 1))] [] K I L (z_q0 K Q) else vp_in a1 5 ∧ vp_in a5 6 ∧ ¬ ((I 54 (((a5 * 5) + a1).toNatClampNeg)) : Int32) = 0 ∧ Z n0 xX9_leastFor (d + 1) rc rs 9 [(0, .ref (n0 + 52)), (1, .int a1), (3, .int (if (((((I 56 a1.toNatClampNeg) * (I 55 a5.toNatClampNeg)) + (I 54 (((a5 * 5) + a1).toNatClampNeg))) - 1) / (I 54 (((a5 * 5) + a1).toNatClampNeg))) < a3 then (((((I 56 a1.toNatClampNeg) * (I 55 a5.toNatClampNeg)) + (I 54 (((a5 * 5) + a1).toNatClampNeg))) - 1) / (I 54 (((a5 * 5) + a1).toNatClampNeg))) else a3)), (4, .int (a4 + ((I 54 (((a5 * 5) + a1).toNatClampNeg)) * 9))), (5, .int (a5 + 1))] [] K I L (z_q0 K Q)) else vp_in a1 5 ∧ Q (some (.int (if a4 < (I 56 a1.toNatClampNeg) then 1000000000 else a3))) I L)) : Z n0 xX9_leastFor (d + 1) rc rs 9 [(0, .ref (n0 + 52)), (1, .int a1), (3, .int a3), (4, .int a4), (5, .int a5)] [] K I L (z_q0 K Q) := by
  refine z_iload 4 dX9_leastFor_9 rfl ?_
  refine z_aload_n 0 dX9_leastFor_11 rfl ?_
  refine fg_9_30 (I 52 3) rfl dX9_leastFor_12 (co_52 hL).1 (co_52 hL).2 rfl ?_
  refine z_icmp_ge 82 dX9_leastFor_15 (by decide) (fun g1 => ?_) (fun g1 => ?_)
  · rw [if_neg g1] at h
    refine z_iload 3 dX9_leastFor_82 rfl ?_
    refine z_aload_n 0 dX9_leastFor_84 rfl ?_
    refine fg_9_21 (some 56) rfl dX9_leastFor_85 (co_52 hL).1 (co_52 hL).2 (ca_56 hL).1 ?_
    refine z_iload_n 1 dX9_leastFor_88 rfl ?_
    obtain ⟨o2, h⟩ := h
    refine z_iald (I 56 a1.toNatClampNeg) dX9_leastFor_89 (ca_56 hL).2.1 (ca_56 hL).2.2 o2 rfl ?_
    have key4 : Z n0 xX9_leastFor (d + 1) rc rs 99 [] [.int (if a4 < (I 56 a1.toNatClampNeg) then 1000000000 else a3)] K I L (z_q0 K Q) := by
      exact z_iret dX9_leastFor_99 rfl ⟨rfl, h⟩
    refine z_icmp_ge 98 dX9_leastFor_90 (by decide) (fun g3 => ?_) (fun g3 => ?_)
    · refine z_iload_n 2 dX9_leastFor_98 rfl ?_
      have ee : ((if a4 < (I 56 a1.toNatClampNeg) then 1000000000 else a3) : Int32) = a3 := by rw [if_neg g3]
      rw [ee] at key4
      clear ee
      refine z_sub [] rfl ?_
      exact key4
    · refine z_ldc 1000000000 dX9_leastFor_93 wg_1352 ?_
      refine z_goto 99 dX9_leastFor_95 (by decide) ?_
      have ee : ((if a4 < (I 56 a1.toNatClampNeg) then 1000000000 else a3) : Int32) = 1000000000 := by rw [if_pos g3]
      rw [ee] at key4
      clear ee
      refine z_sub [] rfl ?_
      exact key4
  · rw [if_pos g1] at h
    refine z_aload_n 0 dX9_leastFor_18 rfl ?_
    refine fg_9_15 (some 54) rfl dX9_leastFor_19 (co_52 hL).1 (co_52 hL).2 (ca_54 hL).1 ?_
    refine z_iload 4 dX9_leastFor_22 rfl ?_
    refine z_iconst 5 dX9_leastFor_24 (by decide) ?_
    refine z_imul dX9_leastFor_25 ?_
    refine z_iload_n 1 dX9_leastFor_26 rfl ?_
    refine z_iadd dX9_leastFor_27 ?_
    obtain ⟨o5, h⟩ := h
    refine z_iald (I 54 (((a5 * 5) + a1).toNatClampNeg)) dX9_leastFor_28 (ca_54 hL).2.1 (ca_54 hL).2.2 o5 rfl ?_
    refine z_istore [1, 2, 3, 4, 5, 0] [(0, .ref (n0 + 52)), (1, .int a1), (3, .int a3), (4, .int a4), (5, .int a5), (6, .int (I 54 (((a5 * 5) + a1).toNatClampNeg)))] dX9_leastFor_29 (by decide) rfl ?_
    refine z_iload 5 dX9_leastFor_31 rfl ?_
    refine z_if_ne 39 dX9_leastFor_33 (by decide) (fun g6 => ?_) (fun g6 => ?_)
    · rw [if_neg g6] at h
      refine z_iload 3 dX9_leastFor_39 rfl ?_
      refine z_iload 5 dX9_leastFor_41 rfl ?_
      refine z_bipush 9 dX9_leastFor_43 (by decide) ?_
      refine z_imul dX9_leastFor_45 ?_
      refine z_iadd dX9_leastFor_46 ?_
      refine z_istore [1, 2, 3, 0, 4, 5] [(0, .ref (n0 + 52)), (1, .int a1), (3, .int a3), (4, .int (a4 + ((I 54 (((a5 * 5) + a1).toNatClampNeg)) * 9))), (5, .int a5), (6, .int (I 54 (((a5 * 5) + a1).toNatClampNeg)))] dX9_leastFor_47 (by decide) rfl ?_
      refine z_iload_n 2 dX9_leastFor_49 rfl ?_
      refine z_aload_n 0 dX9_leastFor_50 rfl ?_
      refine fg_9_21 (some 56) rfl dX9_leastFor_51 (co_52 hL).1 (co_52 hL).2 (ca_56 hL).1 ?_
      refine z_iload_n 1 dX9_leastFor_54 rfl ?_
      obtain ⟨o7, h⟩ := h
      refine z_iald (I 56 a1.toNatClampNeg) dX9_leastFor_55 (ca_56 hL).2.1 (ca_56 hL).2.2 o7 rfl ?_
      refine z_aload_n 0 dX9_leastFor_56 rfl ?_
      refine fg_9_18 (some 55) rfl dX9_leastFor_57 (co_52 hL).1 (co_52 hL).2 (ca_55 hL).1 ?_
      refine z_iload 4 dX9_leastFor_60 rfl ?_
      obtain ⟨o8, h⟩ := h
      refine z_iald (I 55 a5.toNatClampNeg) dX9_leastFor_62 (ca_55 hL).2.1 (ca_55 hL).2.2 o8 rfl ?_
      refine z_imul dX9_leastFor_63 ?_
      refine z_iload 5 dX9_leastFor_64 rfl ?_
      refine z_iadd dX9_leastFor_66 ?_
      refine z_iconst 1 dX9_leastFor_67 (by decide) ?_
      refine z_isub dX9_leastFor_68 ?_
      refine z_iload 5 dX9_leastFor_69 rfl ?_
      obtain ⟨o9, h⟩ := h
      refine z_idiv dX9_leastFor_71 o9 ?_
      refine z_mmin dX9_leastFor_72 wg_1366 (by omega) (Nat.le_of_ble_eq_true rfl) ?_
      refine z_istore_n [1, 2, 0, 3, 4, 5] [(0, .ref (n0 + 52)), (1, .int a1), (3, .int (if (((((I 56 a1.toNatClampNeg) * (I 55 a5.toNatClampNeg)) + (I 54 (((a5 * 5) + a1).toNatClampNeg))) - 1) / (I 54 (((a5 * 5) + a1).toNatClampNeg))) < a3 then (((((I 56 a1.toNatClampNeg) * (I 55 a5.toNatClampNeg)) + (I 54 (((a5 * 5) + a1).toNatClampNeg))) - 1) / (I 54 (((a5 * 5) + a1).toNatClampNeg))) else a3)), (4, .int (a4 + ((I 54 (((a5 * 5) + a1).toNatClampNeg)) * 9))), (5, .int a5), (6, .int (I 54 (((a5 * 5) + a1).toNatClampNeg)))] dX9_leastFor_75 (by decide) rfl ?_
      refine z_iinc (j := 4) (a5 + 1) [1, 2, 3, 4, 0, 5] [(0, .ref (n0 + 52)), (1, .int a1), (3, .int (if (((((I 56 a1.toNatClampNeg) * (I 55 a5.toNatClampNeg)) + (I 54 (((a5 * 5) + a1).toNatClampNeg))) - 1) / (I 54 (((a5 * 5) + a1).toNatClampNeg))) < a3 then (((((I 56 a1.toNatClampNeg) * (I 55 a5.toNatClampNeg)) + (I 54 (((a5 * 5) + a1).toNatClampNeg))) - 1) / (I 54 (((a5 * 5) + a1).toNatClampNeg))) else a3)), (4, .int (a4 + ((I 54 (((a5 * 5) + a1).toNatClampNeg)) * 9))), (5, .int (a5 + 1)), (6, .int (I 54 (((a5 * 5) + a1).toNatClampNeg)))] dX9_leastFor_76 rfl rfl (by decide) rfl ?_
      refine z_goto 9 dX9_leastFor_79 (by decide) ?_
      refine z_sub [0, 1, 2, 3, 4] rfl ?_
      exact h
    · rw [if_pos g6] at h
      refine z_goto 76 dX9_leastFor_36 (by decide) ?_
      refine z_iinc (j := 4) (a5 + 1) [1, 2, 3, 4, 0, 5] [(0, .ref (n0 + 52)), (1, .int a1), (3, .int a3), (4, .int a4), (5, .int (a5 + 1)), (6, .int (I 54 (((a5 * 5) + a1).toNatClampNeg)))] dX9_leastFor_76 rfl rfl (by decide) rfl ?_
      refine z_goto 9 dX9_leastFor_79 (by decide) ?_
      refine z_sub [0, 1, 2, 3, 4] rfl ?_
      exact h
theorem dX10_cover_0 : decode cX10_cover 0 = .ok (.aload_n 0, 1) := by decide +kernel
theorem dX10_cover_1 : decode cX10_cover 1 = .ok (.getfield 9, 3) := by decide +kernel
theorem dX10_cover_4 : decode cX10_cover 4 = .ok (.iconst 0, 1) := by decide +kernel
theorem dX10_cover_5 : decode cX10_cover 5 = .ok (.invokestatic 18, 3) := by decide +kernel
theorem dX10_cover_8 : decode cX10_cover 8 = .ok (.aload_n 0, 1) := by decide +kernel
theorem dX10_cover_9 : decode cX10_cover 9 = .ok (.iconst 0, 1) := by decide +kernel
theorem dX10_cover_10 : decode cX10_cover 10 = .ok (.putfield 24, 3) := by decide +kernel
theorem dX10_cover_13 : decode cX10_cover 13 = .ok (.aload_n 1, 1) := by decide +kernel
theorem dX10_cover_14 : decode cX10_cover 14 = .ok (.aload_n 2, 1) := by decide +kernel
theorem dX10_cover_15 : decode cX10_cover 15 = .ok (.invokevirtual 28, 3) := by decide +kernel
theorem dX10_cover_18 : decode cX10_cover 18 = .ok (.aload_n 0, 1) := by decide +kernel
theorem dX10_cover_19 : decode cX10_cover 19 = .ok (.aload_n 1, 1) := by decide +kernel
theorem dX10_cover_20 : decode cX10_cover 20 = .ok (.aload_n 2, 1) := by decide +kernel
theorem dX10_cover_21 : decode cX10_cover 21 = .ok (.iload_n 3, 1) := by decide +kernel
theorem dX10_cover_22 : decode cX10_cover 22 = .ok (.invokevirtual 34, 3) := by decide +kernel
theorem dX10_cover_25 : decode cX10_cover 25 = .ok (.ifCond .ne 5, 3) := by decide +kernel
theorem dX10_cover_28 : decode cX10_cover 28 = .ok (.iconst 0, 1) := by decide +kernel
theorem dX10_cover_29 : decode cX10_cover 29 = .ok (.ireturn, 1) := by decide +kernel
theorem dX10_cover_30 : decode cX10_cover 30 = .ok (.aload_n 2, 1) := by decide +kernel
theorem dX10_cover_31 : decode cX10_cover 31 = .ok (.getfield 38, 3) := by decide +kernel
theorem dX10_cover_34 : decode cX10_cover 34 = .ok (.iconst 1, 1) := by decide +kernel
theorem dX10_cover_35 : decode cX10_cover 35 = .ok (.if_icmp .ne 7, 3) := by decide +kernel
theorem dX10_cover_38 : decode cX10_cover 38 = .ok (.iconst 1, 1) := by decide +kernel
theorem dX10_cover_39 : decode cX10_cover 39 = .ok (.goto 4, 3) := by decide +kernel
theorem dX10_cover_42 : decode cX10_cover 42 = .ok (.iconst 0, 1) := by decide +kernel
theorem dX10_cover_43 : decode cX10_cover 43 = .ok (.istore 4, 2) := by decide +kernel
theorem dX10_cover_45 : decode cX10_cover 45 = .ok (.iconst 2, 1) := by decide +kernel
theorem dX10_cover_46 : decode cX10_cover 46 = .ok (.aload_n 1, 1) := by decide +kernel
theorem dX10_cover_47 : decode cX10_cover 47 = .ok (.getfield 43, 3) := by decide +kernel
theorem dX10_cover_50 : decode cX10_cover 50 = .ok (.iconst 0, 1) := by decide +kernel
theorem dX10_cover_51 : decode cX10_cover 51 = .ok (.iaload, 1) := by decide +kernel
theorem dX10_cover_52 : decode cX10_cover 52 = .ok (.imul, 1) := by decide +kernel
theorem dX10_cover_53 : decode cX10_cover 53 = .ok (.istore 5, 2) := by decide +kernel
theorem dX10_cover_55 : decode cX10_cover 55 = .ok (.iconst 0, 1) := by decide +kernel
theorem dX10_cover_56 : decode cX10_cover 56 = .ok (.istore 6, 2) := by decide +kernel
theorem dX10_cover_58 : decode cX10_cover 58 = .ok (.iload 6, 2) := by decide +kernel
theorem dX10_cover_60 : decode cX10_cover 60 = .ok (.aload_n 1, 1) := by decide +kernel
theorem dX10_cover_61 : decode cX10_cover 61 = .ok (.getfield 46, 3) := by decide +kernel
theorem dX10_cover_64 : decode cX10_cover 64 = .ok (.if_icmp .ge 145, 3) := by decide +kernel
theorem dX10_cover_67 : decode cX10_cover 67 = .ok (.iload 6, 2) := by decide +kernel
theorem dX10_cover_69 : decode cX10_cover 69 = .ok (.iconst 1, 1) := by decide +kernel
theorem dX10_cover_70 : decode cX10_cover 70 = .ok (.iadd, 1) := by decide +kernel
theorem dX10_cover_71 : decode cX10_cover 71 = .ok (.aload_n 1, 1) := by decide +kernel
theorem dX10_cover_72 : decode cX10_cover 72 = .ok (.getfield 46, 3) := by decide +kernel
theorem dX10_cover_75 : decode cX10_cover 75 = .ok (.if_icmp .ge 10, 3) := by decide +kernel
theorem dX10_cover_78 : decode cX10_cover 78 = .ok (.iload 6, 2) := by decide +kernel
theorem dX10_cover_80 : decode cX10_cover 80 = .ok (.iconst 1, 1) := by decide +kernel
theorem dX10_cover_81 : decode cX10_cover 81 = .ok (.iadd, 1) := by decide +kernel
theorem dX10_cover_82 : decode cX10_cover 82 = .ok (.goto 4, 3) := by decide +kernel
theorem dX10_cover_85 : decode cX10_cover 85 = .ok (.iconst 0, 1) := by decide +kernel
theorem dX10_cover_86 : decode cX10_cover 86 = .ok (.istore 7, 2) := by decide +kernel
theorem dX10_cover_88 : decode cX10_cover 88 = .ok (.iconst 2, 1) := by decide +kernel
theorem dX10_cover_89 : decode cX10_cover 89 = .ok (.aload_n 1, 1) := by decide +kernel
theorem dX10_cover_90 : decode cX10_cover 90 = .ok (.getfield 49, 3) := by decide +kernel
theorem dX10_cover_93 : decode cX10_cover 93 = .ok (.iload 6, 2) := by decide +kernel
theorem dX10_cover_95 : decode cX10_cover 95 = .ok (.iaload, 1) := by decide +kernel
theorem dX10_cover_96 : decode cX10_cover 96 = .ok (.aload_n 0, 1) := by decide +kernel
theorem dX10_cover_97 : decode cX10_cover 97 = .ok (.getfield 52, 3) := by decide +kernel
theorem dX10_cover_100 : decode cX10_cover 100 = .ok (.isub, 1) := by decide +kernel
theorem dX10_cover_101 : decode cX10_cover 101 = .ok (.imul, 1) := by decide +kernel
theorem dX10_cover_102 : decode cX10_cover 102 = .ok (.istore 8, 2) := by decide +kernel
theorem dX10_cover_104 : decode cX10_cover 104 = .ok (.iconst 2, 1) := by decide +kernel
theorem dX10_cover_105 : decode cX10_cover 105 = .ok (.aload_n 1, 1) := by decide +kernel
theorem dX10_cover_106 : decode cX10_cover 106 = .ok (.getfield 49, 3) := by decide +kernel
theorem dX10_cover_109 : decode cX10_cover 109 = .ok (.iload 7, 2) := by decide +kernel
theorem dX10_cover_111 : decode cX10_cover 111 = .ok (.iaload, 1) := by decide +kernel
theorem dX10_cover_112 : decode cX10_cover 112 = .ok (.aload_n 0, 1) := by decide +kernel
theorem dX10_cover_113 : decode cX10_cover 113 = .ok (.getfield 52, 3) := by decide +kernel
theorem dX10_cover_116 : decode cX10_cover 116 = .ok (.isub, 1) := by decide +kernel
theorem dX10_cover_117 : decode cX10_cover 117 = .ok (.imul, 1) := by decide +kernel
theorem dX10_cover_118 : decode cX10_cover 118 = .ok (.istore 9, 2) := by decide +kernel
theorem dX10_cover_120 : decode cX10_cover 120 = .ok (.aload_n 1, 1) := by decide +kernel
theorem dX10_cover_121 : decode cX10_cover 121 = .ok (.getfield 43, 3) := by decide +kernel
theorem dX10_cover_124 : decode cX10_cover 124 = .ok (.iload 6, 2) := by decide +kernel
theorem dX10_cover_126 : decode cX10_cover 126 = .ok (.iaload, 1) := by decide +kernel
theorem dX10_cover_127 : decode cX10_cover 127 = .ok (.istore 10, 2) := by decide +kernel
theorem dX10_cover_129 : decode cX10_cover 129 = .ok (.aload_n 1, 1) := by decide +kernel
theorem dX10_cover_130 : decode cX10_cover 130 = .ok (.getfield 43, 3) := by decide +kernel
theorem dX10_cover_133 : decode cX10_cover 133 = .ok (.iload 7, 2) := by decide +kernel
theorem dX10_cover_135 : decode cX10_cover 135 = .ok (.iaload, 1) := by decide +kernel
theorem dX10_cover_136 : decode cX10_cover 136 = .ok (.istore 11, 2) := by decide +kernel
theorem dX10_cover_138 : decode cX10_cover 138 = .ok (.aload_n 0, 1) := by decide +kernel
theorem dX10_cover_139 : decode cX10_cover 139 = .ok (.iconst 2, 1) := by decide +kernel
theorem dX10_cover_140 : decode cX10_cover 140 = .ok (.iload 10, 2) := by decide +kernel
theorem dX10_cover_142 : decode cX10_cover 142 = .ok (.aload_n 0, 1) := by decide +kernel
theorem dX10_cover_143 : decode cX10_cover 143 = .ok (.getfield 55, 3) := by decide +kernel
theorem dX10_cover_146 : decode cX10_cover 146 = .ok (.isub, 1) := by decide +kernel
theorem dX10_cover_147 : decode cX10_cover 147 = .ok (.imul, 1) := by decide +kernel
theorem dX10_cover_148 : decode cX10_cover 148 = .ok (.iload 8, 2) := by decide +kernel
theorem dX10_cover_150 : decode cX10_cover 150 = .ok (.iconst 2, 1) := by decide +kernel
theorem dX10_cover_151 : decode cX10_cover 151 = .ok (.iload 11, 2) := by decide +kernel
theorem dX10_cover_153 : decode cX10_cover 153 = .ok (.aload_n 0, 1) := by decide +kernel
theorem dX10_cover_154 : decode cX10_cover 154 = .ok (.getfield 55, 3) := by decide +kernel
theorem dX10_cover_157 : decode cX10_cover 157 = .ok (.isub, 1) := by decide +kernel
theorem dX10_cover_158 : decode cX10_cover 158 = .ok (.imul, 1) := by decide +kernel
theorem dX10_cover_159 : decode cX10_cover 159 = .ok (.iload 9, 2) := by decide +kernel
theorem dX10_cover_161 : decode cX10_cover 161 = .ok (.iload_n 3, 1) := by decide +kernel
theorem dX10_cover_162 : decode cX10_cover 162 = .ok (.invokevirtual 58, 3) := by decide +kernel
theorem dX10_cover_165 : decode cX10_cover 165 = .ok (.iload 4, 2) := by decide +kernel
theorem dX10_cover_167 : decode cX10_cover 167 = .ok (.ifCond .eq 36, 3) := by decide +kernel
theorem dX10_cover_170 : decode cX10_cover 170 = .ok (.aload_n 0, 1) := by decide +kernel
theorem dX10_cover_171 : decode cX10_cover 171 = .ok (.iconst 2, 1) := by decide +kernel
theorem dX10_cover_172 : decode cX10_cover 172 = .ok (.iload 5, 2) := by decide +kernel
theorem dX10_cover_174 : decode cX10_cover 174 = .ok (.iload 10, 2) := by decide +kernel
theorem dX10_cover_176 : decode cX10_cover 176 = .ok (.isub, 1) := by decide +kernel
theorem dX10_cover_177 : decode cX10_cover 177 = .ok (.aload_n 0, 1) := by decide +kernel
theorem dX10_cover_178 : decode cX10_cover 178 = .ok (.getfield 55, 3) := by decide +kernel
theorem dX10_cover_181 : decode cX10_cover 181 = .ok (.isub, 1) := by decide +kernel
theorem dX10_cover_182 : decode cX10_cover 182 = .ok (.imul, 1) := by decide +kernel
theorem dX10_cover_183 : decode cX10_cover 183 = .ok (.iload 8, 2) := by decide +kernel
theorem dX10_cover_185 : decode cX10_cover 185 = .ok (.iconst 2, 1) := by decide +kernel
theorem dX10_cover_186 : decode cX10_cover 186 = .ok (.iload 5, 2) := by decide +kernel
theorem dX10_cover_188 : decode cX10_cover 188 = .ok (.iload 11, 2) := by decide +kernel
theorem dX10_cover_190 : decode cX10_cover 190 = .ok (.isub, 1) := by decide +kernel
theorem dX10_cover_191 : decode cX10_cover 191 = .ok (.aload_n 0, 1) := by decide +kernel
theorem dX10_cover_192 : decode cX10_cover 192 = .ok (.getfield 55, 3) := by decide +kernel
theorem dX10_cover_195 : decode cX10_cover 195 = .ok (.isub, 1) := by decide +kernel
theorem dX10_cover_196 : decode cX10_cover 196 = .ok (.imul, 1) := by decide +kernel
theorem dX10_cover_197 : decode cX10_cover 197 = .ok (.iload 9, 2) := by decide +kernel
theorem dX10_cover_199 : decode cX10_cover 199 = .ok (.iload_n 3, 1) := by decide +kernel
theorem dX10_cover_200 : decode cX10_cover 200 = .ok (.invokevirtual 58, 3) := by decide +kernel
theorem dX10_cover_203 : decode cX10_cover 203 = .ok (.iinc 6 1, 3) := by decide +kernel
theorem dX10_cover_206 : decode cX10_cover 206 = .ok (.goto (-148), 3) := by decide +kernel
theorem dX10_cover_209 : decode cX10_cover 209 = .ok (.aload_n 0, 1) := by decide +kernel
theorem dX10_cover_210 : decode cX10_cover 210 = .ok (.invokevirtual 62, 3) := by decide +kernel
theorem dX10_cover_213 : decode cX10_cover 213 = .ok (.aload_n 0, 1) := by decide +kernel
theorem dX10_cover_214 : decode cX10_cover 214 = .ok (.invokevirtual 65, 3) := by decide +kernel
theorem dX10_cover_217 : decode cX10_cover 217 = .ok (.aload_n 0, 1) := by decide +kernel
theorem dX10_cover_218 : decode cX10_cover 218 = .ok (.getfield 24, 3) := by decide +kernel
theorem dX10_cover_221 : decode cX10_cover 221 = .ok (.ireturn, 1) := by decide +kernel
set_option maxRecDepth 100000 in
set_option maxHeartbeats 4000000 in
theorem wp_X10_cover {n0 d : Nat} {K : z_K} {I : z_I} {L : z_L} {Q : z_q} {o0 : Nat} {p0 : Nat} {p1 : Nat} {p2 : Int32} (h : o0 < K.1 ∧ (K.2.1 o0).1 = 10 ∧ (∃ q3, K.2.2 o0 0 = some q3 ∧ RM0 n0 xJ7_fill_53178 d [.ref (n0 + q3), .int 0] K I L (fun vv I4 L5 => vv = none ∧ p0 < K.1 ∧ (K.2.1 p0).1 = 2 ∧ RM0 n0 xX2_trace d [.ref (n0 + p0), .ref (n0 + p1)] K (zI I4 o0 4 0) L5 (fun vv I8 L9 => vv = none ∧ RM0 n0 xX10_spans d [.ref (n0 + o0), .ref (n0 + p0), .ref (n0 + p1), .int p2] K I8 L9 (fun vv I10 L11 => ∃ r12 : Int32, vv = some (.int r12) ∧ (if r12 = 0 then Q (some (.int 0)) I10 L11 else p1 < K.1 ∧ (K.2.1 p1).1 = 5 ∧ (∃ q18, K.2.2 p0 12 = some q18 ∧ ∃ n19, q18 < K.1 ∧ K.2.1 q18 = (20, n19) ∧ vp_in 0 n19 ∧ Z n0 xX10_cover (d + 1) 0 0 58 [(0, .ref (n0 + o0)), (1, .ref (n0 + p0)), (3, .int p2), (4, .int (if ((I10 p1 1) : Int32) = 1 then 1 else 0)), (5, .int (2 * (I10 q18 0))), (6, .int 0)] [] K I10 L11 (z_q0 K Q)))))))) : RM0 n0 xX10_cover (d + 1) [.ref (n0 + o0), .ref (n0 + p0), .ref (n0 + p1), .int p2] K I L Q := by
  refine z_entry0 (by decide) (Nat.le_of_ble_eq_true rfl) ?_
  change Z n0 xX10_cover (d + 1) 0 0 0 [(0, .ref (n0 + o0)), (1, .ref (n0 + p0)), (2, .ref (n0 + p1)), (3, .int p2)] [] K I L (z_q0 K Q)
  refine z_aload_n 0 dX10_cover_0 rfl ?_
  obtain ⟨o1, o2, h⟩ := h
  obtain ⟨q3, q3e, h⟩ := h
  refine fg_10_9 (some q3) rfl dX10_cover_1 o1 o2 q3e ?_
  refine z_iconst 0 dX10_cover_4 (by decide) ?_
  refine z_callS0 (As := [.ref (n0 + q3), .int 0]) (st := []) dX10_cover_5 hy_J7_fill_53178 wg_1106 wg_775 (Nat.le_refl _) (Nat.le_of_ble_eq_true rfl) (RM0.mono h ?_)
  clear h
  intro vv I4 L5 h
  obtain ⟨rfl, h⟩ := h
  change Z n0 xX10_cover (d + 1) 0 0 8 [(0, .ref (n0 + o0)), (1, .ref (n0 + p0)), (2, .ref (n0 + p1)), (3, .int p2)] [] K I4 L5 (z_q0 K Q)
  refine z_aload_n 0 dX10_cover_8 rfl ?_
  refine z_iconst 0 dX10_cover_9 (by decide) ?_
  refine fp_10_24 rfl dX10_cover_10 o1 o2 ?_
  refine z_aload_n 1 dX10_cover_13 rfl ?_
  refine z_aload_n 2 dX10_cover_14 rfl ?_
  obtain ⟨o6, o7, h⟩ := h
  refine z_callV0 (As := [.ref (n0 + p1)]) (st := []) dX10_cover_15 hy_X2_trace o6 o7 (by decide) wg_1107 wg_900 wg_901 (Nat.le_refl _) (Nat.le_of_ble_eq_true rfl) (RM0.mono h ?_)
  clear h
  intro vv I8 L9 h
  obtain ⟨rfl, h⟩ := h
  change Z n0 xX10_cover (d + 1) 0 0 18 [(0, .ref (n0 + o0)), (1, .ref (n0 + p0)), (2, .ref (n0 + p1)), (3, .int p2)] [] K I8 L9 (z_q0 K Q)
  refine z_aload_n 0 dX10_cover_18 rfl ?_
  refine z_aload_n 1 dX10_cover_19 rfl ?_
  refine z_aload_n 2 dX10_cover_20 rfl ?_
  refine z_iload_n 3 dX10_cover_21 rfl ?_
  refine z_callV0 (As := [.ref (n0 + p0), .ref (n0 + p1), .int p2]) (st := []) dX10_cover_22 hy_X10_spans o1 o2 (by decide) wg_1108 wg_1110 wg_35 (Nat.le_refl _) (Nat.le_of_ble_eq_true rfl) (RM0.mono h ?_)
  clear h
  intro vv I10 L11 h
  obtain ⟨r12, rfl, h⟩ := h
  change Z n0 xX10_cover (d + 1) 0 0 25 [(0, .ref (n0 + o0)), (1, .ref (n0 + p0)), (2, .ref (n0 + p1)), (3, .int p2)] [.int r12] K I10 L11 (z_q0 K Q)
  refine z_if_ne 30 dX10_cover_25 (by decide) (fun g13 => ?_) (fun g13 => ?_)
  · rw [if_neg g13] at h
    refine z_aload_n 2 dX10_cover_30 rfl ?_
    obtain ⟨o14, o15, h⟩ := h
    refine fg_10_38 (I10 p1 1) rfl dX10_cover_31 o14 o15 rfl ?_
    refine z_iconst 1 dX10_cover_34 (by decide) ?_
    have key17 : Z n0 xX10_cover (d + 1) 0 0 43 [(0, .ref (n0 + o0)), (1, .ref (n0 + p0)), (3, .int p2)] [.int (if ((I10 p1 1) : Int32) = 1 then 1 else 0)] K I10 L11 (z_q0 K Q) := by
      refine z_istore [1, 2, 3, 0] [(0, .ref (n0 + o0)), (1, .ref (n0 + p0)), (3, .int p2), (4, .int (if ((I10 p1 1) : Int32) = 1 then 1 else 0))] dX10_cover_43 (by decide) rfl ?_
      refine z_iconst 2 dX10_cover_45 (by decide) ?_
      refine z_aload_n 1 dX10_cover_46 rfl ?_
      obtain ⟨q18, q18e, h⟩ := h
      refine fg_10_43 (some q18) rfl dX10_cover_47 o6 o7 q18e ?_
      refine z_iconst 0 dX10_cover_50 (by decide) ?_
      obtain ⟨n19, o20, o21, o22, h⟩ := h
      refine z_iald (I10 q18 0) dX10_cover_51 o20 o21 o22 rfl ?_
      refine z_imul dX10_cover_52 ?_
      refine z_istore [1, 2, 3, 4, 0] [(0, .ref (n0 + o0)), (1, .ref (n0 + p0)), (3, .int p2), (4, .int (if ((I10 p1 1) : Int32) = 1 then 1 else 0)), (5, .int (2 * (I10 q18 0)))] dX10_cover_53 (by decide) rfl ?_
      refine z_iconst 0 dX10_cover_55 (by decide) ?_
      refine z_istore [1, 2, 3, 4, 5, 0] [(0, .ref (n0 + o0)), (1, .ref (n0 + p0)), (3, .int p2), (4, .int (if ((I10 p1 1) : Int32) = 1 then 1 else 0)), (5, .int (2 * (I10 q18 0))), (6, .int 0)] dX10_cover_56 (by decide) rfl ?_
      exact h
    refine z_icmp_ne 42 dX10_cover_35 (by decide) (fun g16 => ?_) (fun g16 => ?_)
    · refine z_iconst 0 dX10_cover_42 (by decide) ?_
      have ee : ((if ((I10 p1 1) : Int32) = 1 then 1 else 0) : Int32) = 0 := by rw [if_neg g16]
      rw [ee] at key17
      clear ee
      refine z_sub [0, 1, 3] rfl ?_
      exact key17
    · refine z_iconst 1 dX10_cover_38 (by decide) ?_
      refine z_goto 43 dX10_cover_39 (by decide) ?_
      have ee : ((if ((I10 p1 1) : Int32) = 1 then 1 else 0) : Int32) = 1 := by rw [if_pos g16]
      rw [ee] at key17
      clear ee
      refine z_sub [0, 1, 3] rfl ?_
      exact key17
  · rw [if_pos g13] at h
    refine z_iconst 0 dX10_cover_28 (by decide) ?_
    exact z_iret dX10_cover_29 rfl ⟨rfl, h⟩
set_option maxRecDepth 100000 in
set_option maxHeartbeats 4000000 in
theorem wp_X10_cover_58 {n0 d : Nat} {rc rs : Nat} {K : z_K} {I : z_I} {L : z_L} {Q : z_q} {o0 : Nat} {a1 : Nat} {a3 : Int32} {a4 : Int32} {a5 : Int32} {a6 : Int32} (h : a1 < K.1 ∧ (K.2.1 a1).1 = 2 ∧ (if a6 < (I a1 15) then (∃ q12, K.2.2 a1 13 = some q12 ∧ ∃ n13, q12 < K.1 ∧ K.2.1 q12 = (20, n13) ∧ vp_in a6 n13 ∧ o0 < K.1 ∧ (K.2.1 o0).1 = 10 ∧ vp_in (if ((a6 + 1) : Int32) < (I a1 15) then (a6 + 1) else 0) n13 ∧ (∃ q20, K.2.2 a1 12 = some q20 ∧ ∃ n21, q20 < K.1 ∧ K.2.1 q20 = (20, n21) ∧ vp_in a6 n21 ∧ vp_in (if ((a6 + 1) : Int32) < (I a1 15) then (a6 + 1) else 0) n21 ∧ RM0 n0 xX10_cross d [.ref (n0 + o0), .int (2 * ((I q20 a6.toNatClampNeg) - (I o0 5))), .int (2 * ((I q12 a6.toNatClampNeg) - (I o0 6))), .int (2 * ((I q20 ((if ((a6 + 1) : Int32) < (I a1 15) then (a6 + 1) else 0).toNatClampNeg)) - (I o0 5))), .int (2 * ((I q12 ((if ((a6 + 1) : Int32) < (I a1 15) then (a6 + 1) else 0).toNatClampNeg)) - (I o0 6))), .int a3] K I L (fun vv I26 L27 => vv = none ∧ (if a4 = 0 then Z n0 xX10_cover (d + 1) rc rs 58 [(0, .ref (n0 + o0)), (1, .ref (n0 + a1)), (3, .int a3), (4, .int a4), (5, .int a5), (6, .int (a6 + 1))] [] K I26 L27 (z_q0 K Q) else RM0 n0 xX10_cross d [.ref (n0 + o0), .int (2 * ((a5 - (I q20 a6.toNatClampNeg)) - (I26 o0 5))), .int (2 * ((I q12 a6.toNatClampNeg) - (I o0 6))), .int (2 * ((a5 - (I q20 ((if ((a6 + 1) : Int32) < (I a1 15) then (a6 + 1) else 0).toNatClampNeg))) - (I26 o0 5))), .int (2 * ((I q12 ((if ((a6 + 1) : Int32) < (I a1 15) then (a6 + 1) else 0).toNatClampNeg)) - (I o0 6))), .int a3] K I26 L27 (fun vv I29 L30 => vv = none ∧ Z n0 xX10_cover (d + 1) rc rs 58 [(0, .ref (n0 + o0)), (1, .ref (n0 + a1)), (3, .int a3), (4, .int a4), (5, .int a5), (6, .int (a6 + 1))] [] K I29 L30 (z_q0 K Q)))))) else o0 < K.1 ∧ (K.2.1 o0).1 = 10 ∧ RM0 n0 xX10_moveHome d [.ref (n0 + o0)] K I L (fun vv I6 L7 => vv = none ∧ RM0 n0 xX10_turn d [.ref (n0 + o0)] K I6 L7 (fun vv I8 L9 => vv = none ∧ Q (some (.int (I8 o0 4))) I8 L9)))) : Z n0 xX10_cover (d + 1) rc rs 58 [(0, .ref (n0 + o0)), (1, .ref (n0 + a1)), (3, .int a3), (4, .int a4), (5, .int a5), (6, .int a6)] [] K I L (z_q0 K Q) := by
  refine z_iload 5 dX10_cover_58 rfl ?_
  refine z_aload_n 1 dX10_cover_60 rfl ?_
  obtain ⟨o1, o2, h⟩ := h
  refine fg_10_46 (I a1 15) rfl dX10_cover_61 o1 o2 rfl ?_
  refine z_icmp_ge 209 dX10_cover_64 (by decide) (fun g3 => ?_) (fun g3 => ?_)
  · rw [if_neg g3] at h
    refine z_aload_n 0 dX10_cover_209 rfl ?_
    obtain ⟨o4, o5, h⟩ := h
    refine z_callV0 (As := []) (st := []) dX10_cover_210 hy_X10_moveHome o4 o5 (by decide) wg_1118 wg_1120 wg_37 (Nat.le_refl _) (Nat.le_of_ble_eq_true rfl) (RM0.mono h ?_)
    clear h
    intro vv I6 L7 h
    obtain ⟨rfl, h⟩ := h
    change Z n0 xX10_cover (d + 1) rc rs 213 [(0, .ref (n0 + o0)), (1, .ref (n0 + a1)), (3, .int a3), (4, .int a4), (5, .int a5), (6, .int a6)] [] K I6 L7 (z_q0 K Q)
    refine z_aload_n 0 dX10_cover_213 rfl ?_
    refine z_callV0 (As := []) (st := []) dX10_cover_214 hy_X10_turn o4 o5 (by decide) wg_1128 wg_1130 wg_38 (Nat.le_refl _) (Nat.le_of_ble_eq_true rfl) (RM0.mono h ?_)
    clear h
    intro vv I8 L9 h
    obtain ⟨rfl, h⟩ := h
    change Z n0 xX10_cover (d + 1) rc rs 217 [(0, .ref (n0 + o0)), (1, .ref (n0 + a1)), (3, .int a3), (4, .int a4), (5, .int a5), (6, .int a6)] [] K I8 L9 (z_q0 K Q)
    refine z_aload_n 0 dX10_cover_217 rfl ?_
    refine fg_10_24 (I8 o0 4) rfl dX10_cover_218 o4 o5 rfl ?_
    exact z_iret dX10_cover_221 rfl ⟨rfl, h⟩
  · rw [if_pos g3] at h
    refine z_iload 5 dX10_cover_67 rfl ?_
    refine z_iconst 1 dX10_cover_69 (by decide) ?_
    refine z_iadd dX10_cover_70 ?_
    refine z_aload_n 1 dX10_cover_71 rfl ?_
    refine fg_10_46 (I a1 15) rfl dX10_cover_72 o1 o2 rfl ?_
    have key11 : Z n0 xX10_cover (d + 1) rc rs 86 [(0, .ref (n0 + o0)), (1, .ref (n0 + a1)), (3, .int a3), (4, .int a4), (5, .int a5), (6, .int a6)] [.int (if ((a6 + 1) : Int32) < (I a1 15) then (a6 + 1) else 0)] K I L (z_q0 K Q) := by
      refine z_istore [1, 2, 3, 4, 5, 6, 0] [(0, .ref (n0 + o0)), (1, .ref (n0 + a1)), (3, .int a3), (4, .int a4), (5, .int a5), (6, .int a6), (7, .int (if ((a6 + 1) : Int32) < (I a1 15) then (a6 + 1) else 0))] dX10_cover_86 (by decide) rfl ?_
      refine z_iconst 2 dX10_cover_88 (by decide) ?_
      refine z_aload_n 1 dX10_cover_89 rfl ?_
      obtain ⟨q12, q12e, h⟩ := h
      refine fg_10_49 (some q12) rfl dX10_cover_90 o1 o2 q12e ?_
      refine z_iload 5 dX10_cover_93 rfl ?_
      obtain ⟨n13, o14, o15, o16, h⟩ := h
      refine z_iald (I q12 a6.toNatClampNeg) dX10_cover_95 o14 o15 o16 rfl ?_
      refine z_aload_n 0 dX10_cover_96 rfl ?_
      obtain ⟨o17, o18, h⟩ := h
      refine fg_10_52 (I o0 6) rfl dX10_cover_97 o17 o18 rfl ?_
      refine z_isub dX10_cover_100 ?_
      refine z_imul dX10_cover_101 ?_
      refine z_istore [1, 2, 3, 4, 5, 6, 7, 0] [(0, .ref (n0 + o0)), (1, .ref (n0 + a1)), (3, .int a3), (4, .int a4), (5, .int a5), (6, .int a6), (7, .int (if ((a6 + 1) : Int32) < (I a1 15) then (a6 + 1) else 0)), (8, .int (2 * ((I q12 a6.toNatClampNeg) - (I o0 6))))] dX10_cover_102 (by decide) rfl ?_
      refine z_iconst 2 dX10_cover_104 (by decide) ?_
      refine z_aload_n 1 dX10_cover_105 rfl ?_
      refine fg_10_49 (some q12) rfl dX10_cover_106 o1 o2 q12e ?_
      refine z_iload 6 dX10_cover_109 rfl ?_
      obtain ⟨o19, h⟩ := h
      refine z_iald (I q12 ((if ((a6 + 1) : Int32) < (I a1 15) then (a6 + 1) else 0).toNatClampNeg)) dX10_cover_111 o14 o15 o19 rfl ?_
      refine z_aload_n 0 dX10_cover_112 rfl ?_
      refine fg_10_52 (I o0 6) rfl dX10_cover_113 o17 o18 rfl ?_
      refine z_isub dX10_cover_116 ?_
      refine z_imul dX10_cover_117 ?_
      refine z_istore [1, 2, 3, 4, 5, 6, 7, 8, 0] [(0, .ref (n0 + o0)), (1, .ref (n0 + a1)), (3, .int a3), (4, .int a4), (5, .int a5), (6, .int a6), (7, .int (if ((a6 + 1) : Int32) < (I a1 15) then (a6 + 1) else 0)), (8, .int (2 * ((I q12 a6.toNatClampNeg) - (I o0 6)))), (9, .int (2 * ((I q12 ((if ((a6 + 1) : Int32) < (I a1 15) then (a6 + 1) else 0).toNatClampNeg)) - (I o0 6))))] dX10_cover_118 (by decide) rfl ?_
      refine z_aload_n 1 dX10_cover_120 rfl ?_
      obtain ⟨q20, q20e, h⟩ := h
      refine fg_10_43 (some q20) rfl dX10_cover_121 o1 o2 q20e ?_
      refine z_iload 5 dX10_cover_124 rfl ?_
      obtain ⟨n21, o22, o23, o24, h⟩ := h
      refine z_iald (I q20 a6.toNatClampNeg) dX10_cover_126 o22 o23 o24 rfl ?_
      refine z_istore [1, 2, 3, 4, 5, 6, 7, 8, 9, 0] [(0, .ref (n0 + o0)), (1, .ref (n0 + a1)), (3, .int a3), (4, .int a4), (5, .int a5), (6, .int a6), (7, .int (if ((a6 + 1) : Int32) < (I a1 15) then (a6 + 1) else 0)), (8, .int (2 * ((I q12 a6.toNatClampNeg) - (I o0 6)))), (9, .int (2 * ((I q12 ((if ((a6 + 1) : Int32) < (I a1 15) then (a6 + 1) else 0).toNatClampNeg)) - (I o0 6)))), (10, .int (I q20 a6.toNatClampNeg))] dX10_cover_127 (by decide) rfl ?_
      refine z_aload_n 1 dX10_cover_129 rfl ?_
      refine fg_10_43 (some q20) rfl dX10_cover_130 o1 o2 q20e ?_
      refine z_iload 6 dX10_cover_133 rfl ?_
      obtain ⟨o25, h⟩ := h
      refine z_iald (I q20 ((if ((a6 + 1) : Int32) < (I a1 15) then (a6 + 1) else 0).toNatClampNeg)) dX10_cover_135 o22 o23 o25 rfl ?_
      refine z_istore [1, 2, 3, 4, 5, 6, 7, 8, 9, 10, 0] [(0, .ref (n0 + o0)), (1, .ref (n0 + a1)), (3, .int a3), (4, .int a4), (5, .int a5), (6, .int a6), (7, .int (if ((a6 + 1) : Int32) < (I a1 15) then (a6 + 1) else 0)), (8, .int (2 * ((I q12 a6.toNatClampNeg) - (I o0 6)))), (9, .int (2 * ((I q12 ((if ((a6 + 1) : Int32) < (I a1 15) then (a6 + 1) else 0).toNatClampNeg)) - (I o0 6)))), (10, .int (I q20 a6.toNatClampNeg)), (11, .int (I q20 ((if ((a6 + 1) : Int32) < (I a1 15) then (a6 + 1) else 0).toNatClampNeg)))] dX10_cover_136 (by decide) rfl ?_
      refine z_aload_n 0 dX10_cover_138 rfl ?_
      refine z_iconst 2 dX10_cover_139 (by decide) ?_
      refine z_iload 9 dX10_cover_140 rfl ?_
      refine z_aload_n 0 dX10_cover_142 rfl ?_
      refine fg_10_55 (I o0 5) rfl dX10_cover_143 o17 o18 rfl ?_
      refine z_isub dX10_cover_146 ?_
      refine z_imul dX10_cover_147 ?_
      refine z_iload 7 dX10_cover_148 rfl ?_
      refine z_iconst 2 dX10_cover_150 (by decide) ?_
      refine z_iload 10 dX10_cover_151 rfl ?_
      refine z_aload_n 0 dX10_cover_153 rfl ?_
      refine fg_10_55 (I o0 5) rfl dX10_cover_154 o17 o18 rfl ?_
      refine z_isub dX10_cover_157 ?_
      refine z_imul dX10_cover_158 ?_
      refine z_iload 8 dX10_cover_159 rfl ?_
      refine z_iload_n 2 dX10_cover_161 rfl ?_
      refine z_callV0 (As := [.int (2 * ((I q20 a6.toNatClampNeg) - (I o0 5))), .int (2 * ((I q12 a6.toNatClampNeg) - (I o0 6))), .int (2 * ((I q20 ((if ((a6 + 1) : Int32) < (I a1 15) then (a6 + 1) else 0).toNatClampNeg)) - (I o0 5))), .int (2 * ((I q12 ((if ((a6 + 1) : Int32) < (I a1 15) then (a6 + 1) else 0).toNatClampNeg)) - (I o0 6))), .int a3]) (st := []) dX10_cover_162 hy_X10_cross o17 o18 (by decide) wg_1114 wg_1116 wg_36 (Nat.le_refl _) (Nat.le_of_ble_eq_true rfl) (RM0.mono h ?_)
      clear h
      intro vv I26 L27 h
      obtain ⟨rfl, h⟩ := h
      change Z n0 xX10_cover (d + 1) rc rs 165 [(0, .ref (n0 + o0)), (1, .ref (n0 + a1)), (3, .int a3), (4, .int a4), (5, .int a5), (6, .int a6), (7, .int (if ((a6 + 1) : Int32) < (I a1 15) then (a6 + 1) else 0)), (8, .int (2 * ((I q12 a6.toNatClampNeg) - (I o0 6)))), (9, .int (2 * ((I q12 ((if ((a6 + 1) : Int32) < (I a1 15) then (a6 + 1) else 0).toNatClampNeg)) - (I o0 6)))), (10, .int (I q20 a6.toNatClampNeg)), (11, .int (I q20 ((if ((a6 + 1) : Int32) < (I a1 15) then (a6 + 1) else 0).toNatClampNeg)))] [] K I26 L27 (z_q0 K Q)
      refine z_iload 3 dX10_cover_165 rfl ?_
      refine z_if_eq 203 dX10_cover_167 (by decide) (fun g28 => ?_) (fun g28 => ?_)
      · rw [if_pos g28] at h
        refine z_iinc (j := 5) (a6 + 1) [1, 2, 3, 4, 5, 0, 6, 7, 8, 9, 10] [(0, .ref (n0 + o0)), (1, .ref (n0 + a1)), (3, .int a3), (4, .int a4), (5, .int a5), (6, .int (a6 + 1)), (7, .int (if ((a6 + 1) : Int32) < (I a1 15) then (a6 + 1) else 0)), (8, .int (2 * ((I q12 a6.toNatClampNeg) - (I o0 6)))), (9, .int (2 * ((I q12 ((if ((a6 + 1) : Int32) < (I a1 15) then (a6 + 1) else 0).toNatClampNeg)) - (I o0 6)))), (10, .int (I q20 a6.toNatClampNeg)), (11, .int (I q20 ((if ((a6 + 1) : Int32) < (I a1 15) then (a6 + 1) else 0).toNatClampNeg)))] dX10_cover_203 rfl rfl (by decide) rfl ?_
        refine z_goto 58 dX10_cover_206 (by decide) ?_
        refine z_sub [0, 1, 2, 3, 4, 5] rfl ?_
        exact h
      · rw [if_neg g28] at h
        refine z_aload_n 0 dX10_cover_170 rfl ?_
        refine z_iconst 2 dX10_cover_171 (by decide) ?_
        refine z_iload 4 dX10_cover_172 rfl ?_
        refine z_iload 9 dX10_cover_174 rfl ?_
        refine z_isub dX10_cover_176 ?_
        refine z_aload_n 0 dX10_cover_177 rfl ?_
        refine fg_10_55 (I26 o0 5) rfl dX10_cover_178 o17 o18 rfl ?_
        refine z_isub dX10_cover_181 ?_
        refine z_imul dX10_cover_182 ?_
        refine z_iload 7 dX10_cover_183 rfl ?_
        refine z_iconst 2 dX10_cover_185 (by decide) ?_
        refine z_iload 4 dX10_cover_186 rfl ?_
        refine z_iload 10 dX10_cover_188 rfl ?_
        refine z_isub dX10_cover_190 ?_
        refine z_aload_n 0 dX10_cover_191 rfl ?_
        refine fg_10_55 (I26 o0 5) rfl dX10_cover_192 o17 o18 rfl ?_
        refine z_isub dX10_cover_195 ?_
        refine z_imul dX10_cover_196 ?_
        refine z_iload 8 dX10_cover_197 rfl ?_
        refine z_iload_n 2 dX10_cover_199 rfl ?_
        refine z_callV0 (As := [.int (2 * ((a5 - (I q20 a6.toNatClampNeg)) - (I26 o0 5))), .int (2 * ((I q12 a6.toNatClampNeg) - (I o0 6))), .int (2 * ((a5 - (I q20 ((if ((a6 + 1) : Int32) < (I a1 15) then (a6 + 1) else 0).toNatClampNeg))) - (I26 o0 5))), .int (2 * ((I q12 ((if ((a6 + 1) : Int32) < (I a1 15) then (a6 + 1) else 0).toNatClampNeg)) - (I o0 6))), .int a3]) (st := []) dX10_cover_200 hy_X10_cross o17 o18 (by decide) wg_1114 wg_1116 wg_36 (Nat.le_refl _) (Nat.le_of_ble_eq_true rfl) (RM0.mono h ?_)
        clear h
        intro vv I29 L30 h
        obtain ⟨rfl, h⟩ := h
        change Z n0 xX10_cover (d + 1) rc rs 203 [(0, .ref (n0 + o0)), (1, .ref (n0 + a1)), (3, .int a3), (4, .int a4), (5, .int a5), (6, .int a6), (7, .int (if ((a6 + 1) : Int32) < (I a1 15) then (a6 + 1) else 0)), (8, .int (2 * ((I q12 a6.toNatClampNeg) - (I o0 6)))), (9, .int (2 * ((I q12 ((if ((a6 + 1) : Int32) < (I a1 15) then (a6 + 1) else 0).toNatClampNeg)) - (I o0 6)))), (10, .int (I q20 a6.toNatClampNeg)), (11, .int (I q20 ((if ((a6 + 1) : Int32) < (I a1 15) then (a6 + 1) else 0).toNatClampNeg)))] [] K I29 L30 (z_q0 K Q)
        refine z_iinc (j := 5) (a6 + 1) [1, 2, 3, 4, 5, 0, 6, 7, 8, 9, 10] [(0, .ref (n0 + o0)), (1, .ref (n0 + a1)), (3, .int a3), (4, .int a4), (5, .int a5), (6, .int (a6 + 1)), (7, .int (if ((a6 + 1) : Int32) < (I a1 15) then (a6 + 1) else 0)), (8, .int (2 * ((I q12 a6.toNatClampNeg) - (I o0 6)))), (9, .int (2 * ((I q12 ((if ((a6 + 1) : Int32) < (I a1 15) then (a6 + 1) else 0).toNatClampNeg)) - (I o0 6)))), (10, .int (I q20 a6.toNatClampNeg)), (11, .int (I q20 ((if ((a6 + 1) : Int32) < (I a1 15) then (a6 + 1) else 0).toNatClampNeg)))] dX10_cover_203 rfl rfl (by decide) rfl ?_
        refine z_goto 58 dX10_cover_206 (by decide) ?_
        refine z_sub [0, 1, 2, 3, 4, 5] rfl ?_
        exact h
    refine z_icmp_ge 85 dX10_cover_75 (by decide) (fun g10 => ?_) (fun g10 => ?_)
    · refine z_iconst 0 dX10_cover_85 (by decide) ?_
      have ee : ((if ((a6 + 1) : Int32) < (I a1 15) then (a6 + 1) else 0) : Int32) = 0 := by rw [if_neg g10]
      rw [ee] at key11
      clear ee
      exact key11
    · refine z_iload 5 dX10_cover_78 rfl ?_
      refine z_iconst 1 dX10_cover_80 (by decide) ?_
      refine z_iadd dX10_cover_81 ?_
      refine z_goto 86 dX10_cover_82 (by decide) ?_
      have ee : ((if ((a6 + 1) : Int32) < (I a1 15) then (a6 + 1) else 0) : Int32) = (a6 + 1) := by rw [if_pos g10]
      rw [ee] at key11
      clear ee
      exact key11
theorem dX10_spans_0 : decode cX10_spans 0 = .ok (.aload_n 0, 1) := by decide +kernel
theorem dX10_spans_1 : decode cX10_spans 1 = .ok (.aload_n 1, 1) := by decide +kernel
theorem dX10_spans_2 : decode cX10_spans 2 = .ok (.getfield 43, 3) := by decide +kernel
theorem dX10_spans_5 : decode cX10_spans 5 = .ok (.iconst 0, 1) := by decide +kernel
theorem dX10_spans_6 : decode cX10_spans 6 = .ok (.iaload, 1) := by decide +kernel
theorem dX10_spans_7 : decode cX10_spans 7 = .ok (.putfield 55, 3) := by decide +kernel
theorem dX10_spans_10 : decode cX10_spans 10 = .ok (.aload_n 0, 1) := by decide +kernel
theorem dX10_spans_11 : decode cX10_spans 11 = .ok (.aload_n 1, 1) := by decide +kernel
theorem dX10_spans_12 : decode cX10_spans 12 = .ok (.getfield 49, 3) := by decide +kernel
theorem dX10_spans_15 : decode cX10_spans 15 = .ok (.iconst 0, 1) := by decide +kernel
theorem dX10_spans_16 : decode cX10_spans 16 = .ok (.iaload, 1) := by decide +kernel
theorem dX10_spans_17 : decode cX10_spans 17 = .ok (.putfield 52, 3) := by decide +kernel
theorem dX10_spans_20 : decode cX10_spans 20 = .ok (.aload_n 0, 1) := by decide +kernel
theorem dX10_spans_21 : decode cX10_spans 21 = .ok (.getfield 55, 3) := by decide +kernel
theorem dX10_spans_24 : decode cX10_spans 24 = .ok (.istore 4, 2) := by decide +kernel
theorem dX10_spans_26 : decode cX10_spans 26 = .ok (.aload_n 0, 1) := by decide +kernel
theorem dX10_spans_27 : decode cX10_spans 27 = .ok (.getfield 52, 3) := by decide +kernel
theorem dX10_spans_30 : decode cX10_spans 30 = .ok (.istore 5, 2) := by decide +kernel
theorem dX10_spans_32 : decode cX10_spans 32 = .ok (.iconst 1, 1) := by decide +kernel
theorem dX10_spans_33 : decode cX10_spans 33 = .ok (.istore 6, 2) := by decide +kernel
theorem dX10_spans_35 : decode cX10_spans 35 = .ok (.iload 6, 2) := by decide +kernel
theorem dX10_spans_37 : decode cX10_spans 37 = .ok (.aload_n 1, 1) := by decide +kernel
theorem dX10_spans_38 : decode cX10_spans 38 = .ok (.getfield 46, 3) := by decide +kernel
theorem dX10_spans_41 : decode cX10_spans 41 = .ok (.if_icmp .ge 73, 3) := by decide +kernel
theorem dX10_spans_44 : decode cX10_spans 44 = .ok (.aload_n 0, 1) := by decide +kernel
theorem dX10_spans_45 : decode cX10_spans 45 = .ok (.aload_n 0, 1) := by decide +kernel
theorem dX10_spans_46 : decode cX10_spans 46 = .ok (.getfield 55, 3) := by decide +kernel
theorem dX10_spans_49 : decode cX10_spans 49 = .ok (.aload_n 1, 1) := by decide +kernel
theorem dX10_spans_50 : decode cX10_spans 50 = .ok (.getfield 43, 3) := by decide +kernel
theorem dX10_spans_53 : decode cX10_spans 53 = .ok (.iload 6, 2) := by decide +kernel
theorem dX10_spans_55 : decode cX10_spans 55 = .ok (.iaload, 1) := by decide +kernel
theorem dX10_spans_56 : decode cX10_spans 56 = .ok (.invokestatic 68, 3) := by decide +kernel
theorem dX10_spans_59 : decode cX10_spans 59 = .ok (.putfield 55, 3) := by decide +kernel
theorem dX10_spans_62 : decode cX10_spans 62 = .ok (.aload_n 0, 1) := by decide +kernel
theorem dX10_spans_63 : decode cX10_spans 63 = .ok (.aload_n 0, 1) := by decide +kernel
theorem dX10_spans_64 : decode cX10_spans 64 = .ok (.getfield 52, 3) := by decide +kernel
theorem dX10_spans_67 : decode cX10_spans 67 = .ok (.aload_n 1, 1) := by decide +kernel
theorem dX10_spans_68 : decode cX10_spans 68 = .ok (.getfield 49, 3) := by decide +kernel
theorem dX10_spans_71 : decode cX10_spans 71 = .ok (.iload 6, 2) := by decide +kernel
theorem dX10_spans_73 : decode cX10_spans 73 = .ok (.iaload, 1) := by decide +kernel
theorem dX10_spans_74 : decode cX10_spans 74 = .ok (.invokestatic 68, 3) := by decide +kernel
theorem dX10_spans_77 : decode cX10_spans 77 = .ok (.putfield 52, 3) := by decide +kernel
theorem dX10_spans_80 : decode cX10_spans 80 = .ok (.iload 4, 2) := by decide +kernel
theorem dX10_spans_82 : decode cX10_spans 82 = .ok (.aload_n 1, 1) := by decide +kernel
theorem dX10_spans_83 : decode cX10_spans 83 = .ok (.getfield 43, 3) := by decide +kernel
theorem dX10_spans_86 : decode cX10_spans 86 = .ok (.iload 6, 2) := by decide +kernel
theorem dX10_spans_88 : decode cX10_spans 88 = .ok (.iaload, 1) := by decide +kernel
theorem dX10_spans_89 : decode cX10_spans 89 = .ok (.invokestatic 74, 3) := by decide +kernel
theorem dX10_spans_92 : decode cX10_spans 92 = .ok (.istore 4, 2) := by decide +kernel
theorem dX10_spans_94 : decode cX10_spans 94 = .ok (.iload 5, 2) := by decide +kernel
theorem dX10_spans_96 : decode cX10_spans 96 = .ok (.aload_n 1, 1) := by decide +kernel
theorem dX10_spans_97 : decode cX10_spans 97 = .ok (.getfield 49, 3) := by decide +kernel
theorem dX10_spans_100 : decode cX10_spans 100 = .ok (.iload 6, 2) := by decide +kernel
theorem dX10_spans_102 : decode cX10_spans 102 = .ok (.iaload, 1) := by decide +kernel
theorem dX10_spans_103 : decode cX10_spans 103 = .ok (.invokestatic 74, 3) := by decide +kernel
theorem dX10_spans_106 : decode cX10_spans 106 = .ok (.istore 5, 2) := by decide +kernel
theorem dX10_spans_108 : decode cX10_spans 108 = .ok (.iinc 6 1, 3) := by decide +kernel
theorem dX10_spans_111 : decode cX10_spans 111 = .ok (.goto (-76), 3) := by decide +kernel
theorem dX10_spans_114 : decode cX10_spans 114 = .ok (.aload_n 2, 1) := by decide +kernel
theorem dX10_spans_115 : decode cX10_spans 115 = .ok (.getfield 38, 3) := by decide +kernel
theorem dX10_spans_118 : decode cX10_spans 118 = .ok (.iconst 1, 1) := by decide +kernel
theorem dX10_spans_119 : decode cX10_spans 119 = .ok (.if_icmp .ne 47, 3) := by decide +kernel
theorem dX10_spans_122 : decode cX10_spans 122 = .ok (.iconst 2, 1) := by decide +kernel
theorem dX10_spans_123 : decode cX10_spans 123 = .ok (.aload_n 1, 1) := by decide +kernel
theorem dX10_spans_124 : decode cX10_spans 124 = .ok (.getfield 43, 3) := by decide +kernel
theorem dX10_spans_127 : decode cX10_spans 127 = .ok (.iconst 0, 1) := by decide +kernel
theorem dX10_spans_128 : decode cX10_spans 128 = .ok (.iaload, 1) := by decide +kernel
theorem dX10_spans_129 : decode cX10_spans 129 = .ok (.imul, 1) := by decide +kernel
theorem dX10_spans_130 : decode cX10_spans 130 = .ok (.istore 6, 2) := by decide +kernel
theorem dX10_spans_132 : decode cX10_spans 132 = .ok (.iload 6, 2) := by decide +kernel
theorem dX10_spans_134 : decode cX10_spans 134 = .ok (.iload 4, 2) := by decide +kernel
theorem dX10_spans_136 : decode cX10_spans 136 = .ok (.isub, 1) := by decide +kernel
theorem dX10_spans_137 : decode cX10_spans 137 = .ok (.istore 7, 2) := by decide +kernel
theorem dX10_spans_139 : decode cX10_spans 139 = .ok (.iload 4, 2) := by decide +kernel
theorem dX10_spans_141 : decode cX10_spans 141 = .ok (.iload 6, 2) := by decide +kernel
theorem dX10_spans_143 : decode cX10_spans 143 = .ok (.aload_n 0, 1) := by decide +kernel
theorem dX10_spans_144 : decode cX10_spans 144 = .ok (.getfield 55, 3) := by decide +kernel
theorem dX10_spans_147 : decode cX10_spans 147 = .ok (.isub, 1) := by decide +kernel
theorem dX10_spans_148 : decode cX10_spans 148 = .ok (.invokestatic 74, 3) := by decide +kernel
theorem dX10_spans_151 : decode cX10_spans 151 = .ok (.istore 4, 2) := by decide +kernel
theorem dX10_spans_153 : decode cX10_spans 153 = .ok (.aload_n 0, 1) := by decide +kernel
theorem dX10_spans_154 : decode cX10_spans 154 = .ok (.aload_n 0, 1) := by decide +kernel
theorem dX10_spans_155 : decode cX10_spans 155 = .ok (.getfield 55, 3) := by decide +kernel
theorem dX10_spans_158 : decode cX10_spans 158 = .ok (.iload 7, 2) := by decide +kernel
theorem dX10_spans_160 : decode cX10_spans 160 = .ok (.invokestatic 68, 3) := by decide +kernel
theorem dX10_spans_163 : decode cX10_spans 163 = .ok (.putfield 55, 3) := by decide +kernel
theorem dX10_spans_166 : decode cX10_spans 166 = .ok (.iload 4, 2) := by decide +kernel
theorem dX10_spans_168 : decode cX10_spans 168 = .ok (.aload_n 0, 1) := by decide +kernel
theorem dX10_spans_169 : decode cX10_spans 169 = .ok (.getfield 55, 3) := by decide +kernel
theorem dX10_spans_172 : decode cX10_spans 172 = .ok (.isub, 1) := by decide +kernel
theorem dX10_spans_173 : decode cX10_spans 173 = .ok (.bipush 24, 2) := by decide +kernel
theorem dX10_spans_175 : decode cX10_spans 175 = .ok (.iload_n 3, 1) := by decide +kernel
theorem dX10_spans_176 : decode cX10_spans 176 = .ok (.imul, 1) := by decide +kernel
theorem dX10_spans_177 : decode cX10_spans 177 = .ok (.if_icmp .gt 21, 3) := by decide +kernel
theorem dX10_spans_180 : decode cX10_spans 180 = .ok (.iload 5, 2) := by decide +kernel
theorem dX10_spans_182 : decode cX10_spans 182 = .ok (.aload_n 0, 1) := by decide +kernel
theorem dX10_spans_183 : decode cX10_spans 183 = .ok (.getfield 52, 3) := by decide +kernel
theorem dX10_spans_186 : decode cX10_spans 186 = .ok (.isub, 1) := by decide +kernel
theorem dX10_spans_187 : decode cX10_spans 187 = .ok (.bipush 24, 2) := by decide +kernel
theorem dX10_spans_189 : decode cX10_spans 189 = .ok (.iload_n 3, 1) := by decide +kernel
theorem dX10_spans_190 : decode cX10_spans 190 = .ok (.imul, 1) := by decide +kernel
theorem dX10_spans_191 : decode cX10_spans 191 = .ok (.if_icmp .gt 7, 3) := by decide +kernel
theorem dX10_spans_194 : decode cX10_spans 194 = .ok (.iconst 1, 1) := by decide +kernel
theorem dX10_spans_195 : decode cX10_spans 195 = .ok (.goto 4, 3) := by decide +kernel
theorem dX10_spans_198 : decode cX10_spans 198 = .ok (.iconst 0, 1) := by decide +kernel
theorem dX10_spans_199 : decode cX10_spans 199 = .ok (.ireturn, 1) := by decide +kernel
set_option maxRecDepth 100000 in
set_option maxHeartbeats 4000000 in
theorem wp_X10_spans {n0 d : Nat} {K : z_K} {I : z_I} {L : z_L} {Q : z_q} {o0 : Nat} {p0 : Nat} {p1 : Nat} {p2 : Int32} (h : p0 < K.1 ∧ (K.2.1 p0).1 = 2 ∧ (∃ q3, K.2.2 p0 12 = some q3 ∧ ∃ n4, q3 < K.1 ∧ K.2.1 q3 = (20, n4) ∧ vp_in 0 n4 ∧ o0 < K.1 ∧ (K.2.1 o0).1 = 10 ∧ (∃ q10, K.2.2 p0 13 = some q10 ∧ ∃ n11, q10 < K.1 ∧ K.2.1 q10 = (20, n11) ∧ vp_in 0 n11 ∧ Z n0 xX10_spans (d + 1) 0 0 35 [(0, .ref (n0 + o0)), (1, .ref (n0 + p0)), (2, .ref (n0 + p1)), (3, .int p2), (4, .int ((zI (zI I o0 5 (I q3 0)) o0 6 ((zI I o0 5 (I q3 0)) q10 0)) o0 5)), (5, .int ((zI (zI I o0 5 (I q3 0)) o0 6 ((zI I o0 5 (I q3 0)) q10 0)) o0 6)), (6, .int 1)] [] K (zI (zI I o0 5 (I q3 0)) o0 6 ((zI I o0 5 (I q3 0)) q10 0)) L (z_q0 K Q)))) : RM0 n0 xX10_spans (d + 1) [.ref (n0 + o0), .ref (n0 + p0), .ref (n0 + p1), .int p2] K I L Q := by
  refine z_entry0 (by decide) (Nat.le_of_ble_eq_true rfl) ?_
  change Z n0 xX10_spans (d + 1) 0 0 0 [(0, .ref (n0 + o0)), (1, .ref (n0 + p0)), (2, .ref (n0 + p1)), (3, .int p2)] [] K I L (z_q0 K Q)
  refine z_aload_n 0 dX10_spans_0 rfl ?_
  refine z_aload_n 1 dX10_spans_1 rfl ?_
  obtain ⟨o1, o2, h⟩ := h
  obtain ⟨q3, q3e, h⟩ := h
  refine fg_10_43 (some q3) rfl dX10_spans_2 o1 o2 q3e ?_
  refine z_iconst 0 dX10_spans_5 (by decide) ?_
  obtain ⟨n4, o5, o6, o7, h⟩ := h
  refine z_iald (I q3 0) dX10_spans_6 o5 o6 o7 rfl ?_
  obtain ⟨o8, o9, h⟩ := h
  refine fp_10_55 rfl dX10_spans_7 o8 o9 ?_
  refine z_aload_n 0 dX10_spans_10 rfl ?_
  refine z_aload_n 1 dX10_spans_11 rfl ?_
  obtain ⟨q10, q10e, h⟩ := h
  refine fg_10_49 (some q10) rfl dX10_spans_12 o1 o2 q10e ?_
  refine z_iconst 0 dX10_spans_15 (by decide) ?_
  obtain ⟨n11, o12, o13, o14, h⟩ := h
  refine z_iald ((zI I o0 5 (I q3 0)) q10 0) dX10_spans_16 o12 o13 o14 rfl ?_
  refine fp_10_52 rfl dX10_spans_17 o8 o9 ?_
  refine z_aload_n 0 dX10_spans_20 rfl ?_
  refine fg_10_55 ((zI (zI I o0 5 (I q3 0)) o0 6 ((zI I o0 5 (I q3 0)) q10 0)) o0 5) rfl dX10_spans_21 o8 o9 rfl ?_
  refine z_istore [1, 2, 3, 4, 0] [(0, .ref (n0 + o0)), (1, .ref (n0 + p0)), (2, .ref (n0 + p1)), (3, .int p2), (4, .int ((zI (zI I o0 5 (I q3 0)) o0 6 ((zI I o0 5 (I q3 0)) q10 0)) o0 5))] dX10_spans_24 (by decide) rfl ?_
  refine z_aload_n 0 dX10_spans_26 rfl ?_
  refine fg_10_52 ((zI (zI I o0 5 (I q3 0)) o0 6 ((zI I o0 5 (I q3 0)) q10 0)) o0 6) rfl dX10_spans_27 o8 o9 rfl ?_
  refine z_istore [1, 2, 3, 4, 5, 0] [(0, .ref (n0 + o0)), (1, .ref (n0 + p0)), (2, .ref (n0 + p1)), (3, .int p2), (4, .int ((zI (zI I o0 5 (I q3 0)) o0 6 ((zI I o0 5 (I q3 0)) q10 0)) o0 5)), (5, .int ((zI (zI I o0 5 (I q3 0)) o0 6 ((zI I o0 5 (I q3 0)) q10 0)) o0 6))] dX10_spans_30 (by decide) rfl ?_
  refine z_iconst 1 dX10_spans_32 (by decide) ?_
  refine z_istore [1, 2, 3, 4, 5, 6, 0] [(0, .ref (n0 + o0)), (1, .ref (n0 + p0)), (2, .ref (n0 + p1)), (3, .int p2), (4, .int ((zI (zI I o0 5 (I q3 0)) o0 6 ((zI I o0 5 (I q3 0)) q10 0)) o0 5)), (5, .int ((zI (zI I o0 5 (I q3 0)) o0 6 ((zI I o0 5 (I q3 0)) q10 0)) o0 6)), (6, .int 1)] dX10_spans_33 (by decide) rfl ?_
  exact h
set_option maxRecDepth 100000 in
set_option maxHeartbeats 4000000 in
theorem wp_X10_spans_35 {n0 d : Nat} {rc rs : Nat} {K : z_K} {I : z_I} {L : z_L} {Q : z_q} {o0 : Nat} {a1 : Nat} {a2 : Nat} {a3 : Int32} {a4 : Int32} {a5 : Int32} {a6 : Int32} (h : a1 < K.1 ∧ (K.2.1 a1).1 = 2 ∧ (if a6 < (I a1 15) then o0 < K.1 ∧ (K.2.1 o0).1 = 10 ∧ (∃ q24, K.2.2 a1 12 = some q24 ∧ ∃ n25, q24 < K.1 ∧ K.2.1 q24 = (20, n25) ∧ vp_in a6 n25 ∧ (∃ q29, K.2.2 a1 13 = some q29 ∧ ∃ n30, q29 < K.1 ∧ K.2.1 q29 = (20, n30) ∧ vp_in a6 n30 ∧ Z n0 xX10_spans (d + 1) rc rs 35 [(0, .ref (n0 + o0)), (1, .ref (n0 + a1)), (2, .ref (n0 + a2)), (3, .int a3), (4, .int (if a4 < ((zI (zI I o0 5 (if (I q24 a6.toNatClampNeg) < (I o0 5) then (I q24 a6.toNatClampNeg) else (I o0 5))) o0 6 (if ((zI I o0 5 (if (I q24 a6.toNatClampNeg) < (I o0 5) then (I q24 a6.toNatClampNeg) else (I o0 5))) q29 a6.toNatClampNeg) < ((zI I o0 5 (if (I q24 a6.toNatClampNeg) < (I o0 5) then (I q24 a6.toNatClampNeg) else (I o0 5))) o0 6) then ((zI I o0 5 (if (I q24 a6.toNatClampNeg) < (I o0 5) then (I q24 a6.toNatClampNeg) else (I o0 5))) q29 a6.toNatClampNeg) else ((zI I o0 5 (if (I q24 a6.toNatClampNeg) < (I o0 5) then (I q24 a6.toNatClampNeg) else (I o0 5))) o0 6))) q24 a6.toNatClampNeg) then ((zI (zI I o0 5 (if (I q24 a6.toNatClampNeg) < (I o0 5) then (I q24 a6.toNatClampNeg) else (I o0 5))) o0 6 (if ((zI I o0 5 (if (I q24 a6.toNatClampNeg) < (I o0 5) then (I q24 a6.toNatClampNeg) else (I o0 5))) q29 a6.toNatClampNeg) < ((zI I o0 5 (if (I q24 a6.toNatClampNeg) < (I o0 5) then (I q24 a6.toNatClampNeg) else (I o0 5))) o0 6) then ((zI I o0 5 (if (I q24 a6.toNatClampNeg) < (I o0 5) then (I q24 a6.toNatClampNeg) else (I o0 5))) q29 a6.toNatClampNeg) else ((zI I o0 5 (if (I q24 a6.toNatClampNeg) < (I o0 5) then (I q24 a6.toNatClampNeg) else (I o0 5))) o0 6))) q24 a6.toNatClampNeg) else a4)), (5, .int (if a5 < ((zI (zI I o0 5 (if (I q24 a6.toNatClampNeg) < (I o0 5) then (I q24 a6.toNatClampNeg) else (I o0 5))) o0 6 (if ((zI I o0 5 (if (I q24 a6.toNatClampNeg) < (I o0 5) then (I q24 a6.toNatClampNeg) else (I o0 5))) q29 a6.toNatClampNeg) < ((zI I o0 5 (if (I q24 a6.toNatClampNeg) < (I o0 5) then (I q24 a6.toNatClampNeg) else (I o0 5))) o0 6) then ((zI I o0 5 (if (I q24 a6.toNatClampNeg) < (I o0 5) then (I q24 a6.toNatClampNeg) else (I o0 5))) q29 a6.toNatClampNeg) else ((zI I o0 5 (if (I q24 a6.toNatClampNeg) < (I o0 5) then (I q24 a6.toNatClampNeg) else (I o0 5))) o0 6))) q29 a6.toNatClampNeg) then ((zI (zI I o0 5 (if (I q24 a6.toNatClampNeg) < (I o0 5) then (I q24 a6.toNatClampNeg) else (I o0 5))) o0 6 (if ((zI I o0 5 (if (I q24 a6.toNatClampNeg) < (I o0 5) then (I q24 a6.toNatClampNeg) else (I o0 5))) q29 a6.toNatClampNeg) < ((zI I o0 5 (if (I q24 a6.toNatClampNeg) < (I o0 5) then (I q24 a6.toNatClampNeg) else (I o0 5))) o0 6) then ((zI I o0 5 (if (I q24 a6.toNatClampNeg) < (I o0 5) then (I q24 a6.toNatClampNeg) else (I o0 5))) q29 a6.toNatClampNeg) else ((zI I o0 5 (if (I q24 a6.toNatClampNeg) < (I o0 5) then (I q24 a6.toNatClampNeg) else (I o0 5))) o0 6))) q29 a6.toNatClampNeg) else a5)), (6, .int (a6 + 1))] [] K (zI (zI I o0 5 (if (I q24 a6.toNatClampNeg) < (I o0 5) then (I q24 a6.toNatClampNeg) else (I o0 5))) o0 6 (if ((zI I o0 5 (if (I q24 a6.toNatClampNeg) < (I o0 5) then (I q24 a6.toNatClampNeg) else (I o0 5))) q29 a6.toNatClampNeg) < ((zI I o0 5 (if (I q24 a6.toNatClampNeg) < (I o0 5) then (I q24 a6.toNatClampNeg) else (I o0 5))) o0 6) then ((zI I o0 5 (if (I q24 a6.toNatClampNeg) < (I o0 5) then (I q24 a6.toNatClampNeg) else (I o0 5))) q29 a6.toNatClampNeg) else ((zI I o0 5 (if (I q24 a6.toNatClampNeg) < (I o0 5) then (I q24 a6.toNatClampNeg) else (I o0 5))) o0 6))) L (z_q0 K Q))) else a2 < K.1 ∧ (K.2.1 a2).1 = 5 ∧ (if ((I a2 1) : Int32) = 1 then (∃ q12, K.2.2 a1 12 = some q12 ∧ ∃ n13, q12 < K.1 ∧ K.2.1 q12 = (20, n13) ∧ vp_in 0 n13 ∧ o0 < K.1 ∧ (K.2.1 o0).1 = 10 ∧ Q (some (.int (if (24 * a3) < (((if a4 < ((2 * (I q12 0)) - (I o0 5)) then ((2 * (I q12 0)) - (I o0 5)) else a4) - ((zI I o0 5 (if ((2 * (I q12 0)) - a4) < (I o0 5) then ((2 * (I q12 0)) - a4) else (I o0 5))) o0 5)) : Int32) then 0 else if (24 * a3) < ((a5 - ((zI I o0 5 (if ((2 * (I q12 0)) - a4) < (I o0 5) then ((2 * (I q12 0)) - a4) else (I o0 5))) o0 6)) : Int32) then 0 else 1))) (zI I o0 5 (if ((2 * (I q12 0)) - a4) < (I o0 5) then ((2 * (I q12 0)) - a4) else (I o0 5))) L) else o0 < K.1 ∧ (K.2.1 o0).1 = 10 ∧ Q (some (.int (if (24 * a3) < ((a4 - (I o0 5)) : Int32) then 0 else if (24 * a3) < ((a5 - (I o0 6)) : Int32) then 0 else 1))) I L))) : Z n0 xX10_spans (d + 1) rc rs 35 [(0, .ref (n0 + o0)), (1, .ref (n0 + a1)), (2, .ref (n0 + a2)), (3, .int a3), (4, .int a4), (5, .int a5), (6, .int a6)] [] K I L (z_q0 K Q) := by
  refine z_iload 6 dX10_spans_35 rfl ?_
  refine z_aload_n 1 dX10_spans_37 rfl ?_
  obtain ⟨o1, o2, h⟩ := h
  refine fg_10_46 (I a1 15) rfl dX10_spans_38 o1 o2 rfl ?_
  refine z_icmp_ge 114 dX10_spans_41 (by decide) (fun g3 => ?_) (fun g3 => ?_)
  · rw [if_neg g3] at h
    refine z_aload_n 2 dX10_spans_114 rfl ?_
    obtain ⟨o4, o5, h⟩ := h
    refine fg_10_38 (I a2 1) rfl dX10_spans_115 o4 o5 rfl ?_
    refine z_iconst 1 dX10_spans_118 (by decide) ?_
    refine z_icmp_ne 166 dX10_spans_119 (by decide) (fun g6 => ?_) (fun g6 => ?_)
    · rw [if_neg g6] at h
      refine z_iload 4 dX10_spans_166 rfl ?_
      refine z_aload_n 0 dX10_spans_168 rfl ?_
      obtain ⟨o7, o8, h⟩ := h
      refine fg_10_55 (I o0 5) rfl dX10_spans_169 o7 o8 rfl ?_
      refine z_isub dX10_spans_172 ?_
      refine z_bipush 24 dX10_spans_173 (by decide) ?_
      refine z_iload_n 3 dX10_spans_175 rfl ?_
      refine z_imul dX10_spans_176 ?_
      have key11 : Z n0 xX10_spans (d + 1) rc rs 199 [] [.int (if (24 * a3) < ((a4 - (I o0 5)) : Int32) then 0 else if (24 * a3) < ((a5 - (I o0 6)) : Int32) then 0 else 1)] K I L (z_q0 K Q) := by
        exact z_zretb dX10_spans_199 rfl (z_bite (by repeat' (first | exact Or.inl rfl | exact Or.inr rfl | split))) ⟨rfl, h⟩
      refine z_icmp_gt 198 dX10_spans_177 (by decide) (fun g9 => ?_) (fun g9 => ?_)
      · refine z_iconst 0 dX10_spans_198 (by decide) ?_
        have ee : ((if (24 * a3) < ((a4 - (I o0 5)) : Int32) then 0 else if (24 * a3) < ((a5 - (I o0 6)) : Int32) then 0 else 1) : Int32) = 0 := by rw [if_pos g9]
        rw [ee] at key11
        clear ee
        refine z_sub [] rfl ?_
        exact key11
      · refine z_iload 5 dX10_spans_180 rfl ?_
        refine z_aload_n 0 dX10_spans_182 rfl ?_
        refine fg_10_52 (I o0 6) rfl dX10_spans_183 o7 o8 rfl ?_
        refine z_isub dX10_spans_186 ?_
        refine z_bipush 24 dX10_spans_187 (by decide) ?_
        refine z_iload_n 3 dX10_spans_189 rfl ?_
        refine z_imul dX10_spans_190 ?_
        refine z_icmp_gt 198 dX10_spans_191 (by decide) (fun g10 => ?_) (fun g10 => ?_)
        · refine z_iconst 0 dX10_spans_198 (by decide) ?_
          have ee : ((if (24 * a3) < ((a4 - (I o0 5)) : Int32) then 0 else if (24 * a3) < ((a5 - (I o0 6)) : Int32) then 0 else 1) : Int32) = 0 := by rw [if_neg g9, if_pos g10]
          rw [ee] at key11
          clear ee
          refine z_sub [] rfl ?_
          exact key11
        · refine z_iconst 1 dX10_spans_194 (by decide) ?_
          refine z_goto 199 dX10_spans_195 (by decide) ?_
          have ee : ((if (24 * a3) < ((a4 - (I o0 5)) : Int32) then 0 else if (24 * a3) < ((a5 - (I o0 6)) : Int32) then 0 else 1) : Int32) = 1 := by rw [if_neg g9, if_neg g10]
          rw [ee] at key11
          clear ee
          refine z_sub [] rfl ?_
          exact key11
    · rw [if_pos g6] at h
      refine z_iconst 2 dX10_spans_122 (by decide) ?_
      refine z_aload_n 1 dX10_spans_123 rfl ?_
      obtain ⟨q12, q12e, h⟩ := h
      refine fg_10_43 (some q12) rfl dX10_spans_124 o1 o2 q12e ?_
      refine z_iconst 0 dX10_spans_127 (by decide) ?_
      obtain ⟨n13, o14, o15, o16, h⟩ := h
      refine z_iald (I q12 0) dX10_spans_128 o14 o15 o16 rfl ?_
      refine z_imul dX10_spans_129 ?_
      refine z_istore [1, 2, 3, 4, 5, 6, 0] [(0, .ref (n0 + o0)), (1, .ref (n0 + a1)), (2, .ref (n0 + a2)), (3, .int a3), (4, .int a4), (5, .int a5), (6, .int (2 * (I q12 0)))] dX10_spans_130 (by decide) rfl ?_
      refine z_iload 6 dX10_spans_132 rfl ?_
      refine z_iload 4 dX10_spans_134 rfl ?_
      refine z_isub dX10_spans_136 ?_
      refine z_istore [1, 2, 3, 4, 5, 6, 7, 0] [(0, .ref (n0 + o0)), (1, .ref (n0 + a1)), (2, .ref (n0 + a2)), (3, .int a3), (4, .int a4), (5, .int a5), (6, .int (2 * (I q12 0))), (7, .int ((2 * (I q12 0)) - a4))] dX10_spans_137 (by decide) rfl ?_
      refine z_iload 4 dX10_spans_139 rfl ?_
      refine z_iload 6 dX10_spans_141 rfl ?_
      refine z_aload_n 0 dX10_spans_143 rfl ?_
      obtain ⟨o17, o18, h⟩ := h
      refine fg_10_55 (I o0 5) rfl dX10_spans_144 o17 o18 rfl ?_
      refine z_isub dX10_spans_147 ?_
      refine z_mmax dX10_spans_148 wg_1113 (by omega) (Nat.le_of_ble_eq_true rfl) ?_
      refine z_istore [1, 2, 3, 4, 0, 5, 6, 7] [(0, .ref (n0 + o0)), (1, .ref (n0 + a1)), (2, .ref (n0 + a2)), (3, .int a3), (4, .int (if a4 < ((2 * (I q12 0)) - (I o0 5)) then ((2 * (I q12 0)) - (I o0 5)) else a4)), (5, .int a5), (6, .int (2 * (I q12 0))), (7, .int ((2 * (I q12 0)) - a4))] dX10_spans_151 (by decide) rfl ?_
      refine z_aload_n 0 dX10_spans_153 rfl ?_
      refine z_aload_n 0 dX10_spans_154 rfl ?_
      refine fg_10_55 (I o0 5) rfl dX10_spans_155 o17 o18 rfl ?_
      refine z_iload 7 dX10_spans_158 rfl ?_
      refine z_mmin dX10_spans_160 wg_1112 (by omega) (Nat.le_of_ble_eq_true rfl) ?_
      refine fp_10_55 rfl dX10_spans_163 o17 o18 ?_
      refine z_iload 4 dX10_spans_166 rfl ?_
      refine z_aload_n 0 dX10_spans_168 rfl ?_
      refine fg_10_55 ((zI I o0 5 (if ((2 * (I q12 0)) - a4) < (I o0 5) then ((2 * (I q12 0)) - a4) else (I o0 5))) o0 5) rfl dX10_spans_169 o17 o18 rfl ?_
      refine z_isub dX10_spans_172 ?_
      refine z_bipush 24 dX10_spans_173 (by decide) ?_
      refine z_iload_n 3 dX10_spans_175 rfl ?_
      refine z_imul dX10_spans_176 ?_
      have key21 : Z n0 xX10_spans (d + 1) rc rs 199 [] [.int (if (24 * a3) < (((if a4 < ((2 * (I q12 0)) - (I o0 5)) then ((2 * (I q12 0)) - (I o0 5)) else a4) - ((zI I o0 5 (if ((2 * (I q12 0)) - a4) < (I o0 5) then ((2 * (I q12 0)) - a4) else (I o0 5))) o0 5)) : Int32) then 0 else if (24 * a3) < ((a5 - ((zI I o0 5 (if ((2 * (I q12 0)) - a4) < (I o0 5) then ((2 * (I q12 0)) - a4) else (I o0 5))) o0 6)) : Int32) then 0 else 1)] K (zI I o0 5 (if ((2 * (I q12 0)) - a4) < (I o0 5) then ((2 * (I q12 0)) - a4) else (I o0 5))) L (z_q0 K Q) := by
        exact z_zretb dX10_spans_199 rfl (z_bite (by repeat' (first | exact Or.inl rfl | exact Or.inr rfl | split))) ⟨rfl, h⟩
      refine z_icmp_gt 198 dX10_spans_177 (by decide) (fun g19 => ?_) (fun g19 => ?_)
      · refine z_iconst 0 dX10_spans_198 (by decide) ?_
        have ee : ((if (24 * a3) < (((if a4 < ((2 * (I q12 0)) - (I o0 5)) then ((2 * (I q12 0)) - (I o0 5)) else a4) - ((zI I o0 5 (if ((2 * (I q12 0)) - a4) < (I o0 5) then ((2 * (I q12 0)) - a4) else (I o0 5))) o0 5)) : Int32) then 0 else if (24 * a3) < ((a5 - ((zI I o0 5 (if ((2 * (I q12 0)) - a4) < (I o0 5) then ((2 * (I q12 0)) - a4) else (I o0 5))) o0 6)) : Int32) then 0 else 1) : Int32) = 0 := by rw [if_pos g19]
        rw [ee] at key21
        clear ee
        refine z_sub [] rfl ?_
        exact key21
      · refine z_iload 5 dX10_spans_180 rfl ?_
        refine z_aload_n 0 dX10_spans_182 rfl ?_
        refine fg_10_52 ((zI I o0 5 (if ((2 * (I q12 0)) - a4) < (I o0 5) then ((2 * (I q12 0)) - a4) else (I o0 5))) o0 6) rfl dX10_spans_183 o17 o18 rfl ?_
        refine z_isub dX10_spans_186 ?_
        refine z_bipush 24 dX10_spans_187 (by decide) ?_
        refine z_iload_n 3 dX10_spans_189 rfl ?_
        refine z_imul dX10_spans_190 ?_
        refine z_icmp_gt 198 dX10_spans_191 (by decide) (fun g20 => ?_) (fun g20 => ?_)
        · refine z_iconst 0 dX10_spans_198 (by decide) ?_
          have ee : ((if (24 * a3) < (((if a4 < ((2 * (I q12 0)) - (I o0 5)) then ((2 * (I q12 0)) - (I o0 5)) else a4) - ((zI I o0 5 (if ((2 * (I q12 0)) - a4) < (I o0 5) then ((2 * (I q12 0)) - a4) else (I o0 5))) o0 5)) : Int32) then 0 else if (24 * a3) < ((a5 - ((zI I o0 5 (if ((2 * (I q12 0)) - a4) < (I o0 5) then ((2 * (I q12 0)) - a4) else (I o0 5))) o0 6)) : Int32) then 0 else 1) : Int32) = 0 := by rw [if_neg g19, if_pos g20]
          rw [ee] at key21
          clear ee
          refine z_sub [] rfl ?_
          exact key21
        · refine z_iconst 1 dX10_spans_194 (by decide) ?_
          refine z_goto 199 dX10_spans_195 (by decide) ?_
          have ee : ((if (24 * a3) < (((if a4 < ((2 * (I q12 0)) - (I o0 5)) then ((2 * (I q12 0)) - (I o0 5)) else a4) - ((zI I o0 5 (if ((2 * (I q12 0)) - a4) < (I o0 5) then ((2 * (I q12 0)) - a4) else (I o0 5))) o0 5)) : Int32) then 0 else if (24 * a3) < ((a5 - ((zI I o0 5 (if ((2 * (I q12 0)) - a4) < (I o0 5) then ((2 * (I q12 0)) - a4) else (I o0 5))) o0 6)) : Int32) then 0 else 1) : Int32) = 1 := by rw [if_neg g19, if_neg g20]
          rw [ee] at key21
          clear ee
          refine z_sub [] rfl ?_
          exact key21
  · rw [if_pos g3] at h
    refine z_aload_n 0 dX10_spans_44 rfl ?_
    refine z_aload_n 0 dX10_spans_45 rfl ?_
    obtain ⟨o22, o23, h⟩ := h
    refine fg_10_55 (I o0 5) rfl dX10_spans_46 o22 o23 rfl ?_
    refine z_aload_n 1 dX10_spans_49 rfl ?_
    obtain ⟨q24, q24e, h⟩ := h
    refine fg_10_43 (some q24) rfl dX10_spans_50 o1 o2 q24e ?_
    refine z_iload 6 dX10_spans_53 rfl ?_
    obtain ⟨n25, o26, o27, o28, h⟩ := h
    refine z_iald (I q24 a6.toNatClampNeg) dX10_spans_55 o26 o27 o28 rfl ?_
    refine z_mmin dX10_spans_56 wg_1112 (by omega) (Nat.le_of_ble_eq_true rfl) ?_
    refine fp_10_55 rfl dX10_spans_59 o22 o23 ?_
    refine z_aload_n 0 dX10_spans_62 rfl ?_
    refine z_aload_n 0 dX10_spans_63 rfl ?_
    refine fg_10_52 ((zI I o0 5 (if (I q24 a6.toNatClampNeg) < (I o0 5) then (I q24 a6.toNatClampNeg) else (I o0 5))) o0 6) rfl dX10_spans_64 o22 o23 rfl ?_
    refine z_aload_n 1 dX10_spans_67 rfl ?_
    obtain ⟨q29, q29e, h⟩ := h
    refine fg_10_49 (some q29) rfl dX10_spans_68 o1 o2 q29e ?_
    refine z_iload 6 dX10_spans_71 rfl ?_
    obtain ⟨n30, o31, o32, o33, h⟩ := h
    refine z_iald ((zI I o0 5 (if (I q24 a6.toNatClampNeg) < (I o0 5) then (I q24 a6.toNatClampNeg) else (I o0 5))) q29 a6.toNatClampNeg) dX10_spans_73 o31 o32 o33 rfl ?_
    refine z_mmin dX10_spans_74 wg_1112 (by omega) (Nat.le_of_ble_eq_true rfl) ?_
    refine fp_10_52 rfl dX10_spans_77 o22 o23 ?_
    refine z_iload 4 dX10_spans_80 rfl ?_
    refine z_aload_n 1 dX10_spans_82 rfl ?_
    refine fg_10_43 (some q24) rfl dX10_spans_83 o1 o2 q24e ?_
    refine z_iload 6 dX10_spans_86 rfl ?_
    refine z_iald ((zI (zI I o0 5 (if (I q24 a6.toNatClampNeg) < (I o0 5) then (I q24 a6.toNatClampNeg) else (I o0 5))) o0 6 (if ((zI I o0 5 (if (I q24 a6.toNatClampNeg) < (I o0 5) then (I q24 a6.toNatClampNeg) else (I o0 5))) q29 a6.toNatClampNeg) < ((zI I o0 5 (if (I q24 a6.toNatClampNeg) < (I o0 5) then (I q24 a6.toNatClampNeg) else (I o0 5))) o0 6) then ((zI I o0 5 (if (I q24 a6.toNatClampNeg) < (I o0 5) then (I q24 a6.toNatClampNeg) else (I o0 5))) q29 a6.toNatClampNeg) else ((zI I o0 5 (if (I q24 a6.toNatClampNeg) < (I o0 5) then (I q24 a6.toNatClampNeg) else (I o0 5))) o0 6))) q24 a6.toNatClampNeg) dX10_spans_88 o26 o27 o28 rfl ?_
    refine z_mmax dX10_spans_89 wg_1113 (by omega) (Nat.le_of_ble_eq_true rfl) ?_
    refine z_istore [1, 2, 3, 4, 0, 5, 6] [(0, .ref (n0 + o0)), (1, .ref (n0 + a1)), (2, .ref (n0 + a2)), (3, .int a3), (4, .int (if a4 < ((zI (zI I o0 5 (if (I q24 a6.toNatClampNeg) < (I o0 5) then (I q24 a6.toNatClampNeg) else (I o0 5))) o0 6 (if ((zI I o0 5 (if (I q24 a6.toNatClampNeg) < (I o0 5) then (I q24 a6.toNatClampNeg) else (I o0 5))) q29 a6.toNatClampNeg) < ((zI I o0 5 (if (I q24 a6.toNatClampNeg) < (I o0 5) then (I q24 a6.toNatClampNeg) else (I o0 5))) o0 6) then ((zI I o0 5 (if (I q24 a6.toNatClampNeg) < (I o0 5) then (I q24 a6.toNatClampNeg) else (I o0 5))) q29 a6.toNatClampNeg) else ((zI I o0 5 (if (I q24 a6.toNatClampNeg) < (I o0 5) then (I q24 a6.toNatClampNeg) else (I o0 5))) o0 6))) q24 a6.toNatClampNeg) then ((zI (zI I o0 5 (if (I q24 a6.toNatClampNeg) < (I o0 5) then (I q24 a6.toNatClampNeg) else (I o0 5))) o0 6 (if ((zI I o0 5 (if (I q24 a6.toNatClampNeg) < (I o0 5) then (I q24 a6.toNatClampNeg) else (I o0 5))) q29 a6.toNatClampNeg) < ((zI I o0 5 (if (I q24 a6.toNatClampNeg) < (I o0 5) then (I q24 a6.toNatClampNeg) else (I o0 5))) o0 6) then ((zI I o0 5 (if (I q24 a6.toNatClampNeg) < (I o0 5) then (I q24 a6.toNatClampNeg) else (I o0 5))) q29 a6.toNatClampNeg) else ((zI I o0 5 (if (I q24 a6.toNatClampNeg) < (I o0 5) then (I q24 a6.toNatClampNeg) else (I o0 5))) o0 6))) q24 a6.toNatClampNeg) else a4)), (5, .int a5), (6, .int a6)] dX10_spans_92 (by decide) rfl ?_
    refine z_iload 5 dX10_spans_94 rfl ?_
    refine z_aload_n 1 dX10_spans_96 rfl ?_
    refine fg_10_49 (some q29) rfl dX10_spans_97 o1 o2 q29e ?_
    refine z_iload 6 dX10_spans_100 rfl ?_
    refine z_iald ((zI (zI I o0 5 (if (I q24 a6.toNatClampNeg) < (I o0 5) then (I q24 a6.toNatClampNeg) else (I o0 5))) o0 6 (if ((zI I o0 5 (if (I q24 a6.toNatClampNeg) < (I o0 5) then (I q24 a6.toNatClampNeg) else (I o0 5))) q29 a6.toNatClampNeg) < ((zI I o0 5 (if (I q24 a6.toNatClampNeg) < (I o0 5) then (I q24 a6.toNatClampNeg) else (I o0 5))) o0 6) then ((zI I o0 5 (if (I q24 a6.toNatClampNeg) < (I o0 5) then (I q24 a6.toNatClampNeg) else (I o0 5))) q29 a6.toNatClampNeg) else ((zI I o0 5 (if (I q24 a6.toNatClampNeg) < (I o0 5) then (I q24 a6.toNatClampNeg) else (I o0 5))) o0 6))) q29 a6.toNatClampNeg) dX10_spans_102 o31 o32 o33 rfl ?_
    refine z_mmax dX10_spans_103 wg_1113 (by omega) (Nat.le_of_ble_eq_true rfl) ?_
    refine z_istore [1, 2, 3, 4, 5, 0, 6] [(0, .ref (n0 + o0)), (1, .ref (n0 + a1)), (2, .ref (n0 + a2)), (3, .int a3), (4, .int (if a4 < ((zI (zI I o0 5 (if (I q24 a6.toNatClampNeg) < (I o0 5) then (I q24 a6.toNatClampNeg) else (I o0 5))) o0 6 (if ((zI I o0 5 (if (I q24 a6.toNatClampNeg) < (I o0 5) then (I q24 a6.toNatClampNeg) else (I o0 5))) q29 a6.toNatClampNeg) < ((zI I o0 5 (if (I q24 a6.toNatClampNeg) < (I o0 5) then (I q24 a6.toNatClampNeg) else (I o0 5))) o0 6) then ((zI I o0 5 (if (I q24 a6.toNatClampNeg) < (I o0 5) then (I q24 a6.toNatClampNeg) else (I o0 5))) q29 a6.toNatClampNeg) else ((zI I o0 5 (if (I q24 a6.toNatClampNeg) < (I o0 5) then (I q24 a6.toNatClampNeg) else (I o0 5))) o0 6))) q24 a6.toNatClampNeg) then ((zI (zI I o0 5 (if (I q24 a6.toNatClampNeg) < (I o0 5) then (I q24 a6.toNatClampNeg) else (I o0 5))) o0 6 (if ((zI I o0 5 (if (I q24 a6.toNatClampNeg) < (I o0 5) then (I q24 a6.toNatClampNeg) else (I o0 5))) q29 a6.toNatClampNeg) < ((zI I o0 5 (if (I q24 a6.toNatClampNeg) < (I o0 5) then (I q24 a6.toNatClampNeg) else (I o0 5))) o0 6) then ((zI I o0 5 (if (I q24 a6.toNatClampNeg) < (I o0 5) then (I q24 a6.toNatClampNeg) else (I o0 5))) q29 a6.toNatClampNeg) else ((zI I o0 5 (if (I q24 a6.toNatClampNeg) < (I o0 5) then (I q24 a6.toNatClampNeg) else (I o0 5))) o0 6))) q24 a6.toNatClampNeg) else a4)), (5, .int (if a5 < ((zI (zI I o0 5 (if (I q24 a6.toNatClampNeg) < (I o0 5) then (I q24 a6.toNatClampNeg) else (I o0 5))) o0 6 (if ((zI I o0 5 (if (I q24 a6.toNatClampNeg) < (I o0 5) then (I q24 a6.toNatClampNeg) else (I o0 5))) q29 a6.toNatClampNeg) < ((zI I o0 5 (if (I q24 a6.toNatClampNeg) < (I o0 5) then (I q24 a6.toNatClampNeg) else (I o0 5))) o0 6) then ((zI I o0 5 (if (I q24 a6.toNatClampNeg) < (I o0 5) then (I q24 a6.toNatClampNeg) else (I o0 5))) q29 a6.toNatClampNeg) else ((zI I o0 5 (if (I q24 a6.toNatClampNeg) < (I o0 5) then (I q24 a6.toNatClampNeg) else (I o0 5))) o0 6))) q29 a6.toNatClampNeg) then ((zI (zI I o0 5 (if (I q24 a6.toNatClampNeg) < (I o0 5) then (I q24 a6.toNatClampNeg) else (I o0 5))) o0 6 (if ((zI I o0 5 (if (I q24 a6.toNatClampNeg) < (I o0 5) then (I q24 a6.toNatClampNeg) else (I o0 5))) q29 a6.toNatClampNeg) < ((zI I o0 5 (if (I q24 a6.toNatClampNeg) < (I o0 5) then (I q24 a6.toNatClampNeg) else (I o0 5))) o0 6) then ((zI I o0 5 (if (I q24 a6.toNatClampNeg) < (I o0 5) then (I q24 a6.toNatClampNeg) else (I o0 5))) q29 a6.toNatClampNeg) else ((zI I o0 5 (if (I q24 a6.toNatClampNeg) < (I o0 5) then (I q24 a6.toNatClampNeg) else (I o0 5))) o0 6))) q29 a6.toNatClampNeg) else a5)), (6, .int a6)] dX10_spans_106 (by decide) rfl ?_
    refine z_iinc (j := 6) (a6 + 1) [1, 2, 3, 4, 5, 6, 0] [(0, .ref (n0 + o0)), (1, .ref (n0 + a1)), (2, .ref (n0 + a2)), (3, .int a3), (4, .int (if a4 < ((zI (zI I o0 5 (if (I q24 a6.toNatClampNeg) < (I o0 5) then (I q24 a6.toNatClampNeg) else (I o0 5))) o0 6 (if ((zI I o0 5 (if (I q24 a6.toNatClampNeg) < (I o0 5) then (I q24 a6.toNatClampNeg) else (I o0 5))) q29 a6.toNatClampNeg) < ((zI I o0 5 (if (I q24 a6.toNatClampNeg) < (I o0 5) then (I q24 a6.toNatClampNeg) else (I o0 5))) o0 6) then ((zI I o0 5 (if (I q24 a6.toNatClampNeg) < (I o0 5) then (I q24 a6.toNatClampNeg) else (I o0 5))) q29 a6.toNatClampNeg) else ((zI I o0 5 (if (I q24 a6.toNatClampNeg) < (I o0 5) then (I q24 a6.toNatClampNeg) else (I o0 5))) o0 6))) q24 a6.toNatClampNeg) then ((zI (zI I o0 5 (if (I q24 a6.toNatClampNeg) < (I o0 5) then (I q24 a6.toNatClampNeg) else (I o0 5))) o0 6 (if ((zI I o0 5 (if (I q24 a6.toNatClampNeg) < (I o0 5) then (I q24 a6.toNatClampNeg) else (I o0 5))) q29 a6.toNatClampNeg) < ((zI I o0 5 (if (I q24 a6.toNatClampNeg) < (I o0 5) then (I q24 a6.toNatClampNeg) else (I o0 5))) o0 6) then ((zI I o0 5 (if (I q24 a6.toNatClampNeg) < (I o0 5) then (I q24 a6.toNatClampNeg) else (I o0 5))) q29 a6.toNatClampNeg) else ((zI I o0 5 (if (I q24 a6.toNatClampNeg) < (I o0 5) then (I q24 a6.toNatClampNeg) else (I o0 5))) o0 6))) q24 a6.toNatClampNeg) else a4)), (5, .int (if a5 < ((zI (zI I o0 5 (if (I q24 a6.toNatClampNeg) < (I o0 5) then (I q24 a6.toNatClampNeg) else (I o0 5))) o0 6 (if ((zI I o0 5 (if (I q24 a6.toNatClampNeg) < (I o0 5) then (I q24 a6.toNatClampNeg) else (I o0 5))) q29 a6.toNatClampNeg) < ((zI I o0 5 (if (I q24 a6.toNatClampNeg) < (I o0 5) then (I q24 a6.toNatClampNeg) else (I o0 5))) o0 6) then ((zI I o0 5 (if (I q24 a6.toNatClampNeg) < (I o0 5) then (I q24 a6.toNatClampNeg) else (I o0 5))) q29 a6.toNatClampNeg) else ((zI I o0 5 (if (I q24 a6.toNatClampNeg) < (I o0 5) then (I q24 a6.toNatClampNeg) else (I o0 5))) o0 6))) q29 a6.toNatClampNeg) then ((zI (zI I o0 5 (if (I q24 a6.toNatClampNeg) < (I o0 5) then (I q24 a6.toNatClampNeg) else (I o0 5))) o0 6 (if ((zI I o0 5 (if (I q24 a6.toNatClampNeg) < (I o0 5) then (I q24 a6.toNatClampNeg) else (I o0 5))) q29 a6.toNatClampNeg) < ((zI I o0 5 (if (I q24 a6.toNatClampNeg) < (I o0 5) then (I q24 a6.toNatClampNeg) else (I o0 5))) o0 6) then ((zI I o0 5 (if (I q24 a6.toNatClampNeg) < (I o0 5) then (I q24 a6.toNatClampNeg) else (I o0 5))) q29 a6.toNatClampNeg) else ((zI I o0 5 (if (I q24 a6.toNatClampNeg) < (I o0 5) then (I q24 a6.toNatClampNeg) else (I o0 5))) o0 6))) q29 a6.toNatClampNeg) else a5)), (6, .int (a6 + 1))] dX10_spans_108 rfl rfl (by decide) rfl ?_
    refine z_goto 35 dX10_spans_111 (by decide) ?_
    exact h
theorem dX10_cross_0 : decode cX10_cross 0 = .ok (.iconst 0, 1) := by decide +kernel
theorem dX10_cross_1 : decode cX10_cross 1 = .ok (.istore 6, 2) := by decide +kernel
theorem dX10_cross_3 : decode cX10_cross 3 = .ok (.iload 6, 2) := by decide +kernel
theorem dX10_cross_5 : decode cX10_cross 5 = .ok (.bipush 24, 2) := by decide +kernel
theorem dX10_cross_7 : decode cX10_cross 7 = .ok (.if_icmp .ge 156, 3) := by decide +kernel
theorem dX10_cross_10 : decode cX10_cross 10 = .ok (.iconst 2, 1) := by decide +kernel
theorem dX10_cross_11 : decode cX10_cross 11 = .ok (.iload 6, 2) := by decide +kernel
theorem dX10_cross_13 : decode cX10_cross 13 = .ok (.imul, 1) := by decide +kernel
theorem dX10_cross_14 : decode cX10_cross 14 = .ok (.iconst 1, 1) := by decide +kernel
theorem dX10_cross_15 : decode cX10_cross 15 = .ok (.iadd, 1) := by decide +kernel
theorem dX10_cross_16 : decode cX10_cross 16 = .ok (.iload 5, 2) := by decide +kernel
theorem dX10_cross_18 : decode cX10_cross 18 = .ok (.imul, 1) := by decide +kernel
theorem dX10_cross_19 : decode cX10_cross 19 = .ok (.istore 7, 2) := by decide +kernel
theorem dX10_cross_21 : decode cX10_cross 21 = .ok (.iload_n 2, 1) := by decide +kernel
theorem dX10_cross_22 : decode cX10_cross 22 = .ok (.iload 7, 2) := by decide +kernel
theorem dX10_cross_24 : decode cX10_cross 24 = .ok (.if_icmp .le 7, 3) := by decide +kernel
theorem dX10_cross_27 : decode cX10_cross 27 = .ok (.iconst 1, 1) := by decide +kernel
theorem dX10_cross_28 : decode cX10_cross 28 = .ok (.goto 4, 3) := by decide +kernel
theorem dX10_cross_31 : decode cX10_cross 31 = .ok (.iconst 0, 1) := by decide +kernel
theorem dX10_cross_32 : decode cX10_cross 32 = .ok (.iload 4, 2) := by decide +kernel
theorem dX10_cross_34 : decode cX10_cross 34 = .ok (.iload 7, 2) := by decide +kernel
theorem dX10_cross_36 : decode cX10_cross 36 = .ok (.if_icmp .le 7, 3) := by decide +kernel
theorem dX10_cross_39 : decode cX10_cross 39 = .ok (.iconst 1, 1) := by decide +kernel
theorem dX10_cross_40 : decode cX10_cross 40 = .ok (.goto 4, 3) := by decide +kernel
theorem dX10_cross_43 : decode cX10_cross 43 = .ok (.iconst 0, 1) := by decide +kernel
theorem dX10_cross_44 : decode cX10_cross 44 = .ok (.if_icmp .ne 6, 3) := by decide +kernel
theorem dX10_cross_47 : decode cX10_cross 47 = .ok (.goto 110, 3) := by decide +kernel
theorem dX10_cross_50 : decode cX10_cross 50 = .ok (.iload_n 3, 1) := by decide +kernel
theorem dX10_cross_51 : decode cX10_cross 51 = .ok (.iload_n 1, 1) := by decide +kernel
theorem dX10_cross_52 : decode cX10_cross 52 = .ok (.isub, 1) := by decide +kernel
theorem dX10_cross_53 : decode cX10_cross 53 = .ok (.i2l, 1) := by decide +kernel
theorem dX10_cross_54 : decode cX10_cross 54 = .ok (.iload 7, 2) := by decide +kernel
theorem dX10_cross_56 : decode cX10_cross 56 = .ok (.iload_n 2, 1) := by decide +kernel
theorem dX10_cross_57 : decode cX10_cross 57 = .ok (.isub, 1) := by decide +kernel
theorem dX10_cross_58 : decode cX10_cross 58 = .ok (.i2l, 1) := by decide +kernel
theorem dX10_cross_59 : decode cX10_cross 59 = .ok (.lmul, 1) := by decide +kernel
theorem dX10_cross_60 : decode cX10_cross 60 = .ok (.lstore 8, 2) := by decide +kernel
theorem dX10_cross_62 : decode cX10_cross 62 = .ok (.iconst 0, 1) := by decide +kernel
theorem dX10_cross_63 : decode cX10_cross 63 = .ok (.istore 10, 2) := by decide +kernel
theorem dX10_cross_65 : decode cX10_cross 65 = .ok (.iload 10, 2) := by decide +kernel
theorem dX10_cross_67 : decode cX10_cross 67 = .ok (.bipush 24, 2) := by decide +kernel
theorem dX10_cross_69 : decode cX10_cross 69 = .ok (.if_icmp .ge 88, 3) := by decide +kernel
theorem dX10_cross_72 : decode cX10_cross 72 = .ok (.iconst 2, 1) := by decide +kernel
theorem dX10_cross_73 : decode cX10_cross 73 = .ok (.iload 10, 2) := by decide +kernel
theorem dX10_cross_75 : decode cX10_cross 75 = .ok (.imul, 1) := by decide +kernel
theorem dX10_cross_76 : decode cX10_cross 76 = .ok (.iconst 1, 1) := by decide +kernel
theorem dX10_cross_77 : decode cX10_cross 77 = .ok (.iadd, 1) := by decide +kernel
theorem dX10_cross_78 : decode cX10_cross 78 = .ok (.iload 5, 2) := by decide +kernel
theorem dX10_cross_80 : decode cX10_cross 80 = .ok (.imul, 1) := by decide +kernel
theorem dX10_cross_81 : decode cX10_cross 81 = .ok (.iload_n 1, 1) := by decide +kernel
theorem dX10_cross_82 : decode cX10_cross 82 = .ok (.isub, 1) := by decide +kernel
theorem dX10_cross_83 : decode cX10_cross 83 = .ok (.i2l, 1) := by decide +kernel
theorem dX10_cross_84 : decode cX10_cross 84 = .ok (.iload 4, 2) := by decide +kernel
theorem dX10_cross_86 : decode cX10_cross 86 = .ok (.iload_n 2, 1) := by decide +kernel
theorem dX10_cross_87 : decode cX10_cross 87 = .ok (.isub, 1) := by decide +kernel
theorem dX10_cross_88 : decode cX10_cross 88 = .ok (.i2l, 1) := by decide +kernel
theorem dX10_cross_89 : decode cX10_cross 89 = .ok (.lmul, 1) := by decide +kernel
theorem dX10_cross_90 : decode cX10_cross 90 = .ok (.lstore 11, 2) := by decide +kernel
theorem dX10_cross_92 : decode cX10_cross 92 = .ok (.iload 4, 2) := by decide +kernel
theorem dX10_cross_94 : decode cX10_cross 94 = .ok (.iload_n 2, 1) := by decide +kernel
theorem dX10_cross_95 : decode cX10_cross 95 = .ok (.if_icmp .le 19, 3) := by decide +kernel
theorem dX10_cross_98 : decode cX10_cross 98 = .ok (.lload 8, 2) := by decide +kernel
theorem dX10_cross_100 : decode cX10_cross 100 = .ok (.lload 11, 2) := by decide +kernel
theorem dX10_cross_102 : decode cX10_cross 102 = .ok (.lcmp, 1) := by decide +kernel
theorem dX10_cross_103 : decode cX10_cross 103 = .ok (.ifCond .le 7, 3) := by decide +kernel
theorem dX10_cross_106 : decode cX10_cross 106 = .ok (.iconst 1, 1) := by decide +kernel
theorem dX10_cross_107 : decode cX10_cross 107 = .ok (.goto 20, 3) := by decide +kernel
theorem dX10_cross_110 : decode cX10_cross 110 = .ok (.iconst 0, 1) := by decide +kernel
theorem dX10_cross_111 : decode cX10_cross 111 = .ok (.goto 16, 3) := by decide +kernel
theorem dX10_cross_114 : decode cX10_cross 114 = .ok (.lload 8, 2) := by decide +kernel
theorem dX10_cross_116 : decode cX10_cross 116 = .ok (.lload 11, 2) := by decide +kernel
theorem dX10_cross_118 : decode cX10_cross 118 = .ok (.lcmp, 1) := by decide +kernel
theorem dX10_cross_119 : decode cX10_cross 119 = .ok (.ifCond .ge 7, 3) := by decide +kernel
theorem dX10_cross_122 : decode cX10_cross 122 = .ok (.iconst 1, 1) := by decide +kernel
theorem dX10_cross_123 : decode cX10_cross 123 = .ok (.goto 4, 3) := by decide +kernel
theorem dX10_cross_126 : decode cX10_cross 126 = .ok (.iconst 0, 1) := by decide +kernel
theorem dX10_cross_127 : decode cX10_cross 127 = .ok (.istore 13, 2) := by decide +kernel
theorem dX10_cross_129 : decode cX10_cross 129 = .ok (.iload 13, 2) := by decide +kernel
theorem dX10_cross_131 : decode cX10_cross 131 = .ok (.ifCond .ne 6, 3) := by decide +kernel
theorem dX10_cross_134 : decode cX10_cross 134 = .ok (.goto 23, 3) := by decide +kernel
theorem dX10_cross_137 : decode cX10_cross 137 = .ok (.aload_n 0, 1) := by decide +kernel
theorem dX10_cross_138 : decode cX10_cross 138 = .ok (.getfield 9, 3) := by decide +kernel
theorem dX10_cross_141 : decode cX10_cross 141 = .ok (.iload 10, 2) := by decide +kernel
theorem dX10_cross_143 : decode cX10_cross 143 = .ok (.dup2, 1) := by decide +kernel
theorem dX10_cross_144 : decode cX10_cross 144 = .ok (.iaload, 1) := by decide +kernel
theorem dX10_cross_145 : decode cX10_cross 145 = .ok (.iconst 1, 1) := by decide +kernel
theorem dX10_cross_146 : decode cX10_cross 146 = .ok (.iload 6, 2) := by decide +kernel
theorem dX10_cross_148 : decode cX10_cross 148 = .ok (.ishl, 1) := by decide +kernel
theorem dX10_cross_149 : decode cX10_cross 149 = .ok (.ixor, 1) := by decide +kernel
theorem dX10_cross_150 : decode cX10_cross 150 = .ok (.iastore, 1) := by decide +kernel
theorem dX10_cross_151 : decode cX10_cross 151 = .ok (.iinc 10 1, 3) := by decide +kernel
theorem dX10_cross_154 : decode cX10_cross 154 = .ok (.goto (-89), 3) := by decide +kernel
theorem dX10_cross_157 : decode cX10_cross 157 = .ok (.iinc 6 1, 3) := by decide +kernel
theorem dX10_cross_160 : decode cX10_cross 160 = .ok (.goto (-157), 3) := by decide +kernel
theorem dX10_cross_163 : decode cX10_cross 163 = .ok (.return_, 1) := by decide +kernel
set_option maxRecDepth 100000 in
set_option maxHeartbeats 4000000 in
theorem wp_X10_cross {n0 d : Nat} {K : z_K} {I : z_I} {L : z_L} {Q : z_q} {o0 : Nat} {p0 : Int32} {p1 : Int32} {p2 : Int32} {p3 : Int32} {p4 : Int32} (h : Z n0 xX10_cross d 0 0 3 [(0, .ref (n0 + o0)), (1, .int p0), (2, .int p1), (3, .int p2), (4, .int p3), (5, .int p4), (6, .int 0)] [] K I L (z_q0 K Q)) : RM0 n0 xX10_cross d [.ref (n0 + o0), .int p0, .int p1, .int p2, .int p3, .int p4] K I L Q := by
  refine z_entry0 (by decide) (Nat.le_of_ble_eq_true rfl) ?_
  change Z n0 xX10_cross d 0 0 0 [(0, .ref (n0 + o0)), (1, .int p0), (2, .int p1), (3, .int p2), (4, .int p3), (5, .int p4)] [] K I L (z_q0 K Q)
  refine z_iconst 0 dX10_cross_0 (by decide) ?_
  refine z_istore [1, 2, 3, 4, 5, 6, 0] [(0, .ref (n0 + o0)), (1, .int p0), (2, .int p1), (3, .int p2), (4, .int p3), (5, .int p4), (6, .int 0)] dX10_cross_1 (by decide) rfl ?_
  exact h
set_option maxRecDepth 100000 in
set_option maxHeartbeats 4000000 in
theorem wp_X10_cross_3 {n0 d : Nat} {rc rs : Nat} {K : z_K} {I : z_I} {L : z_L} {Q : z_q} {o0 : Nat} {a1 : Int32} {a2 : Int32} {a3 : Int32} {a4 : Int32} {a5 : Int32} {a6 : Int32} (h : (if a6 < 24 then (if ((if (((2 * a6) + 1) * a5) < a2 then 1 else 0) : Int32) = (if (((2 * a6) + 1) * a5) < a4 then 1 else 0) then Z n0 xX10_cross d rc rs 3 [(0, .ref (n0 + o0)), (1, .int a1), (2, .int a2), (3, .int a3), (4, .int a4), (5, .int a5), (6, .int (a6 + 1))] [] K I L (z_q0 K Q) else Z n0 xX10_cross d rc rs 65 [(0, .ref (n0 + o0)), (1, .int a1), (2, .int a2), (3, .int a3), (4, .int a4), (5, .int a5), (6, .int a6), (8, .long ((((a3 - a1) : Int32).toInt64) * ((((((2 * a6) + 1) * a5) - a2) : Int32).toInt64))), (10, .int 0)] [] K I L (z_q0 K Q)) else Q none I L)) : Z n0 xX10_cross d rc rs 3 [(0, .ref (n0 + o0)), (1, .int a1), (2, .int a2), (3, .int a3), (4, .int a4), (5, .int a5), (6, .int a6)] [] K I L (z_q0 K Q) := by
  refine z_iload 6 dX10_cross_3 rfl ?_
  refine z_bipush 24 dX10_cross_5 (by decide) ?_
  refine z_icmp_ge 163 dX10_cross_7 (by decide) (fun g1 => ?_) (fun g1 => ?_)
  · rw [if_neg g1] at h
    exact z_vret dX10_cross_163 rfl ⟨rfl, h⟩
  · rw [if_pos g1] at h
    refine z_iconst 2 dX10_cross_10 (by decide) ?_
    refine z_iload 6 dX10_cross_11 rfl ?_
    refine z_imul dX10_cross_13 ?_
    refine z_iconst 1 dX10_cross_14 (by decide) ?_
    refine z_iadd dX10_cross_15 ?_
    refine z_iload 5 dX10_cross_16 rfl ?_
    refine z_imul dX10_cross_18 ?_
    refine z_istore [1, 2, 3, 4, 5, 6, 7, 0] [(0, .ref (n0 + o0)), (1, .int a1), (2, .int a2), (3, .int a3), (4, .int a4), (5, .int a5), (6, .int a6), (7, .int (((2 * a6) + 1) * a5))] dX10_cross_19 (by decide) rfl ?_
    refine z_iload_n 2 dX10_cross_21 rfl ?_
    refine z_iload 7 dX10_cross_22 rfl ?_
    have key3 : Z n0 xX10_cross d rc rs 32 [(0, .ref (n0 + o0)), (1, .int a1), (2, .int a2), (3, .int a3), (4, .int a4), (5, .int a5), (6, .int a6), (7, .int (((2 * a6) + 1) * a5))] [.int (if (((2 * a6) + 1) * a5) < a2 then 1 else 0)] K I L (z_q0 K Q) := by
      refine z_iload 4 dX10_cross_32 rfl ?_
      refine z_iload 7 dX10_cross_34 rfl ?_
      have key5 : Z n0 xX10_cross d rc rs 44 [(0, .ref (n0 + o0)), (1, .int a1), (2, .int a2), (3, .int a3), (4, .int a4), (5, .int a5), (6, .int a6), (7, .int (((2 * a6) + 1) * a5))] [.int (if (((2 * a6) + 1) * a5) < a4 then 1 else 0), .int (if (((2 * a6) + 1) * a5) < a2 then 1 else 0)] K I L (z_q0 K Q) := by
        refine z_icmp_ne 50 dX10_cross_44 (by decide) (fun g6 => ?_) (fun g6 => ?_)
        · rw [if_neg g6] at h
          refine z_iload_n 3 dX10_cross_50 rfl ?_
          refine z_iload_n 1 dX10_cross_51 rfl ?_
          refine z_isub dX10_cross_52 ?_
          refine z_i2l dX10_cross_53 ?_
          refine z_iload 7 dX10_cross_54 rfl ?_
          refine z_iload_n 2 dX10_cross_56 rfl ?_
          refine z_isub dX10_cross_57 ?_
          refine z_i2l dX10_cross_58 ?_
          refine z_lmul dX10_cross_59 ?_
          refine z_lstore [1, 2, 3, 4, 5, 6, 7, 8, 0] [(0, .ref (n0 + o0)), (1, .int a1), (2, .int a2), (3, .int a3), (4, .int a4), (5, .int a5), (6, .int a6), (7, .int (((2 * a6) + 1) * a5)), (8, .long ((((a3 - a1) : Int32).toInt64) * ((((((2 * a6) + 1) * a5) - a2) : Int32).toInt64)))] dX10_cross_60 (by decide) rfl ?_
          refine z_iconst 0 dX10_cross_62 (by decide) ?_
          refine z_istore [1, 2, 3, 4, 5, 6, 7, 8, 9, 0] [(0, .ref (n0 + o0)), (1, .int a1), (2, .int a2), (3, .int a3), (4, .int a4), (5, .int a5), (6, .int a6), (7, .int (((2 * a6) + 1) * a5)), (8, .long ((((a3 - a1) : Int32).toInt64) * ((((((2 * a6) + 1) * a5) - a2) : Int32).toInt64))), (10, .int 0)] dX10_cross_63 (by decide) rfl ?_
          refine z_sub [0, 1, 2, 3, 4, 5, 6, 8, 9] rfl ?_
          exact h
        · rw [if_pos g6] at h
          refine z_goto 157 dX10_cross_47 (by decide) ?_
          refine z_iinc (j := 6) (a6 + 1) [1, 2, 3, 4, 5, 6, 0, 7] [(0, .ref (n0 + o0)), (1, .int a1), (2, .int a2), (3, .int a3), (4, .int a4), (5, .int a5), (6, .int (a6 + 1)), (7, .int (((2 * a6) + 1) * a5))] dX10_cross_157 rfl rfl (by decide) rfl ?_
          refine z_goto 3 dX10_cross_160 (by decide) ?_
          refine z_sub [0, 1, 2, 3, 4, 5, 6] rfl ?_
          exact h
      refine z_icmp_le 43 dX10_cross_36 (by decide) (fun g4 => ?_) (fun g4 => ?_)
      · refine z_iconst 0 dX10_cross_43 (by decide) ?_
        have ee : ((if (((2 * a6) + 1) * a5) < a4 then 1 else 0) : Int32) = 0 := by rw [if_neg g4]
        rw [ee] at key5
        clear ee
        exact key5
      · refine z_iconst 1 dX10_cross_39 (by decide) ?_
        refine z_goto 44 dX10_cross_40 (by decide) ?_
        have ee : ((if (((2 * a6) + 1) * a5) < a4 then 1 else 0) : Int32) = 1 := by rw [if_pos g4]
        rw [ee] at key5
        clear ee
        exact key5
    refine z_icmp_le 31 dX10_cross_24 (by decide) (fun g2 => ?_) (fun g2 => ?_)
    · refine z_iconst 0 dX10_cross_31 (by decide) ?_
      have ee : ((if (((2 * a6) + 1) * a5) < a2 then 1 else 0) : Int32) = 0 := by rw [if_neg g2]
      rw [ee] at key3
      clear ee
      exact key3
    · refine z_iconst 1 dX10_cross_27 (by decide) ?_
      refine z_goto 32 dX10_cross_28 (by decide) ?_
      have ee : ((if (((2 * a6) + 1) * a5) < a2 then 1 else 0) : Int32) = 1 := by rw [if_pos g2]
      rw [ee] at key3
      clear ee
      exact key3
set_option maxRecDepth 100000 in
set_option maxHeartbeats 4000000 in
theorem wp_X10_cross_65 {n0 d : Nat} {rc rs : Nat} {K : z_K} {I : z_I} {L : z_L} {Q : z_q} {o0 : Nat} {a1 : Int32} {a2 : Int32} {a3 : Int32} {a4 : Int32} {a5 : Int32} {a6 : Int32} {a8 : Int64} {a10 : Int32} (h : (if a10 < 24 then (if ((if a2 < a4 then if (((((((2 * a10) + 1) * a5) - a1) : Int32).toInt64) * (((a4 - a2) : Int32).toInt64)) < a8 then 1 else 0 else if a8 < (((((((2 * a10) + 1) * a5) - a1) : Int32).toInt64) * (((a4 - a2) : Int32).toInt64)) then 1 else 0) : Int32) = 0 then Z n0 xX10_cross d rc rs 3 [(0, .ref (n0 + o0)), (1, .int a1), (2, .int a2), (3, .int a3), (4, .int a4), (5, .int a5), (6, .int (a6 + 1))] [] K I L (z_q0 K Q) else o0 < K.1 ∧ (K.2.1 o0).1 = 10 ∧ (∃ q9, K.2.2 o0 0 = some q9 ∧ ∃ n10, q9 < K.1 ∧ K.2.1 q9 = (20, n10) ∧ vp_in a10 n10 ∧ Z n0 xX10_cross d rc rs 65 [(0, .ref (n0 + o0)), (1, .int a1), (2, .int a2), (3, .int a3), (4, .int a4), (5, .int a5), (6, .int a6), (8, .long a8), (10, .int (a10 + 1))] [] K (zI I q9 a10.toNatClampNeg ((I q9 a10.toNatClampNeg) ^^^ ((1 : Int32) <<< (a6 &&& 31 : Int32)))) L (z_q0 K Q))) else Z n0 xX10_cross d rc rs 3 [(0, .ref (n0 + o0)), (1, .int a1), (2, .int a2), (3, .int a3), (4, .int a4), (5, .int a5), (6, .int (a6 + 1))] [] K I L (z_q0 K Q))) : Z n0 xX10_cross d rc rs 65 [(0, .ref (n0 + o0)), (1, .int a1), (2, .int a2), (3, .int a3), (4, .int a4), (5, .int a5), (6, .int a6), (8, .long a8), (10, .int a10)] [] K I L (z_q0 K Q) := by
  refine z_iload 8 dX10_cross_65 rfl ?_
  refine z_bipush 24 dX10_cross_67 (by decide) ?_
  refine z_icmp_ge 157 dX10_cross_69 (by decide) (fun g1 => ?_) (fun g1 => ?_)
  · rw [if_neg g1] at h
    refine z_iinc (j := 6) (a6 + 1) [1, 2, 3, 4, 5, 6, 0, 7, 8] [(0, .ref (n0 + o0)), (1, .int a1), (2, .int a2), (3, .int a3), (4, .int a4), (5, .int a5), (6, .int (a6 + 1)), (8, .long a8), (10, .int a10)] dX10_cross_157 rfl rfl (by decide) rfl ?_
    refine z_goto 3 dX10_cross_160 (by decide) ?_
    refine z_sub [0, 1, 2, 3, 4, 5, 6] rfl ?_
    exact h
  · rw [if_pos g1] at h
    refine z_iconst 2 dX10_cross_72 (by decide) ?_
    refine z_iload 8 dX10_cross_73 rfl ?_
    refine z_imul dX10_cross_75 ?_
    refine z_iconst 1 dX10_cross_76 (by decide) ?_
    refine z_iadd dX10_cross_77 ?_
    refine z_iload 5 dX10_cross_78 rfl ?_
    refine z_imul dX10_cross_80 ?_
    refine z_iload_n 1 dX10_cross_81 rfl ?_
    refine z_isub dX10_cross_82 ?_
    refine z_i2l dX10_cross_83 ?_
    refine z_iload 4 dX10_cross_84 rfl ?_
    refine z_iload_n 2 dX10_cross_86 rfl ?_
    refine z_isub dX10_cross_87 ?_
    refine z_i2l dX10_cross_88 ?_
    refine z_lmul dX10_cross_89 ?_
    refine z_lstore [1, 2, 3, 4, 5, 6, 7, 8, 9, 0] [(0, .ref (n0 + o0)), (1, .int a1), (2, .int a2), (3, .int a3), (4, .int a4), (5, .int a5), (6, .int a6), (8, .long a8), (10, .int a10), (11, .long (((((((2 * a10) + 1) * a5) - a1) : Int32).toInt64) * (((a4 - a2) : Int32).toInt64)))] dX10_cross_90 (by decide) rfl ?_
    refine z_iload 4 dX10_cross_92 rfl ?_
    refine z_iload_n 2 dX10_cross_94 rfl ?_
    have key5 : Z n0 xX10_cross d rc rs 127 [(0, .ref (n0 + o0)), (1, .int a1), (2, .int a2), (3, .int a3), (4, .int a4), (5, .int a5), (6, .int a6), (8, .long a8), (10, .int a10)] [.int (if a2 < a4 then if (((((((2 * a10) + 1) * a5) - a1) : Int32).toInt64) * (((a4 - a2) : Int32).toInt64)) < a8 then 1 else 0 else if a8 < (((((((2 * a10) + 1) * a5) - a1) : Int32).toInt64) * (((a4 - a2) : Int32).toInt64)) then 1 else 0)] K I L (z_q0 K Q) := by
      refine z_istore [1, 2, 3, 4, 5, 6, 7, 8, 9, 0] [(0, .ref (n0 + o0)), (1, .int a1), (2, .int a2), (3, .int a3), (4, .int a4), (5, .int a5), (6, .int a6), (8, .long a8), (10, .int a10), (13, .int (if a2 < a4 then if (((((((2 * a10) + 1) * a5) - a1) : Int32).toInt64) * (((a4 - a2) : Int32).toInt64)) < a8 then 1 else 0 else if a8 < (((((((2 * a10) + 1) * a5) - a1) : Int32).toInt64) * (((a4 - a2) : Int32).toInt64)) then 1 else 0))] dX10_cross_127 (by decide) rfl ?_
      refine z_iload 9 dX10_cross_129 rfl ?_
      refine z_if_ne 137 dX10_cross_131 (by decide) (fun g6 => ?_) (fun g6 => ?_)
      · rw [if_neg g6] at h
        refine z_aload_n 0 dX10_cross_137 rfl ?_
        obtain ⟨o7, o8, h⟩ := h
        obtain ⟨q9, q9e, h⟩ := h
        refine fg_10_9 (some q9) rfl dX10_cross_138 o7 o8 q9e ?_
        refine z_iload 8 dX10_cross_141 rfl ?_
        refine z_dup2 dX10_cross_143 rfl rfl ?_
        obtain ⟨n10, o11, o12, o13, h⟩ := h
        refine z_iald (I q9 a10.toNatClampNeg) dX10_cross_144 o11 o12 o13 rfl ?_
        refine z_iconst 1 dX10_cross_145 (by decide) ?_
        refine z_iload 6 dX10_cross_146 rfl ?_
        refine z_ishl dX10_cross_148 ?_
        refine z_ixor dX10_cross_149 ?_
        refine z_iast dX10_cross_150 o11 o12 o13 ?_
        refine z_iinc (j := 8) (a10 + 1) [1, 2, 3, 4, 5, 6, 7, 8, 0, 9] [(0, .ref (n0 + o0)), (1, .int a1), (2, .int a2), (3, .int a3), (4, .int a4), (5, .int a5), (6, .int a6), (8, .long a8), (10, .int (a10 + 1)), (13, .int (if a2 < a4 then if (((((((2 * a10) + 1) * a5) - a1) : Int32).toInt64) * (((a4 - a2) : Int32).toInt64)) < a8 then 1 else 0 else if a8 < (((((((2 * a10) + 1) * a5) - a1) : Int32).toInt64) * (((a4 - a2) : Int32).toInt64)) then 1 else 0))] dX10_cross_151 rfl rfl (by decide) rfl ?_
        refine z_goto 65 dX10_cross_154 (by decide) ?_
        refine z_sub [0, 1, 2, 3, 4, 5, 6, 7, 8] rfl ?_
        exact h
      · rw [if_pos g6] at h
        refine z_goto 157 dX10_cross_134 (by decide) ?_
        refine z_iinc (j := 6) (a6 + 1) [1, 2, 3, 4, 5, 6, 0, 7, 8, 9] [(0, .ref (n0 + o0)), (1, .int a1), (2, .int a2), (3, .int a3), (4, .int a4), (5, .int a5), (6, .int (a6 + 1)), (8, .long a8), (10, .int a10), (13, .int (if a2 < a4 then if (((((((2 * a10) + 1) * a5) - a1) : Int32).toInt64) * (((a4 - a2) : Int32).toInt64)) < a8 then 1 else 0 else if a8 < (((((((2 * a10) + 1) * a5) - a1) : Int32).toInt64) * (((a4 - a2) : Int32).toInt64)) then 1 else 0))] dX10_cross_157 rfl rfl (by decide) rfl ?_
        refine z_goto 3 dX10_cross_160 (by decide) ?_
        refine z_sub [0, 1, 2, 3, 4, 5, 6] rfl ?_
        exact h
    refine z_icmp_le 114 dX10_cross_95 (by decide) (fun g2 => ?_) (fun g2 => ?_)
    · refine z_lload 7 dX10_cross_114 rfl ?_
      refine z_lload 9 dX10_cross_116 rfl ?_
      refine z_lif_ge 126 dX10_cross_118 dX10_cross_119 (by decide) (fun g3 => ?_) (fun g3 => ?_)
      · refine z_iconst 0 dX10_cross_126 (by decide) ?_
        have ee : ((if a2 < a4 then if (((((((2 * a10) + 1) * a5) - a1) : Int32).toInt64) * (((a4 - a2) : Int32).toInt64)) < a8 then 1 else 0 else if a8 < (((((((2 * a10) + 1) * a5) - a1) : Int32).toInt64) * (((a4 - a2) : Int32).toInt64)) then 1 else 0) : Int32) = 0 := by rw [if_neg g2, if_neg g3]
        rw [ee] at key5
        clear ee
        refine z_sub [0, 1, 2, 3, 4, 5, 6, 7, 8] rfl ?_
        exact key5
      · refine z_iconst 1 dX10_cross_122 (by decide) ?_
        refine z_goto 127 dX10_cross_123 (by decide) ?_
        have ee : ((if a2 < a4 then if (((((((2 * a10) + 1) * a5) - a1) : Int32).toInt64) * (((a4 - a2) : Int32).toInt64)) < a8 then 1 else 0 else if a8 < (((((((2 * a10) + 1) * a5) - a1) : Int32).toInt64) * (((a4 - a2) : Int32).toInt64)) then 1 else 0) : Int32) = 1 := by rw [if_neg g2, if_pos g3]
        rw [ee] at key5
        clear ee
        refine z_sub [0, 1, 2, 3, 4, 5, 6, 7, 8] rfl ?_
        exact key5
    · refine z_lload 7 dX10_cross_98 rfl ?_
      refine z_lload 9 dX10_cross_100 rfl ?_
      refine z_lif_le 110 dX10_cross_102 dX10_cross_103 (by decide) (fun g4 => ?_) (fun g4 => ?_)
      · refine z_iconst 0 dX10_cross_110 (by decide) ?_
        refine z_goto 127 dX10_cross_111 (by decide) ?_
        have ee : ((if a2 < a4 then if (((((((2 * a10) + 1) * a5) - a1) : Int32).toInt64) * (((a4 - a2) : Int32).toInt64)) < a8 then 1 else 0 else if a8 < (((((((2 * a10) + 1) * a5) - a1) : Int32).toInt64) * (((a4 - a2) : Int32).toInt64)) then 1 else 0) : Int32) = 0 := by rw [if_pos g2, if_neg g4]
        rw [ee] at key5
        clear ee
        refine z_sub [0, 1, 2, 3, 4, 5, 6, 7, 8] rfl ?_
        exact key5
      · refine z_iconst 1 dX10_cross_106 (by decide) ?_
        refine z_goto 127 dX10_cross_107 (by decide) ?_
        have ee : ((if a2 < a4 then if (((((((2 * a10) + 1) * a5) - a1) : Int32).toInt64) * (((a4 - a2) : Int32).toInt64)) < a8 then 1 else 0 else if a8 < (((((((2 * a10) + 1) * a5) - a1) : Int32).toInt64) * (((a4 - a2) : Int32).toInt64)) then 1 else 0) : Int32) = 1 := by rw [if_pos g2, if_pos g4]
        rw [ee] at key5
        clear ee
        refine z_sub [0, 1, 2, 3, 4, 5, 6, 7, 8] rfl ?_
        exact key5
theorem dX10_moveHome_0 : decode cX10_moveHome 0 = .ok (.bipush 24, 2) := by decide +kernel
theorem dX10_moveHome_2 : decode cX10_moveHome 2 = .ok (.istore_n 1, 1) := by decide +kernel
theorem dX10_moveHome_3 : decode cX10_moveHome 3 = .ok (.iconst (-1), 1) := by decide +kernel
theorem dX10_moveHome_4 : decode cX10_moveHome 4 = .ok (.istore_n 2, 1) := by decide +kernel
theorem dX10_moveHome_5 : decode cX10_moveHome 5 = .ok (.iconst 0, 1) := by decide +kernel
theorem dX10_moveHome_6 : decode cX10_moveHome 6 = .ok (.istore_n 3, 1) := by decide +kernel
theorem dX10_moveHome_7 : decode cX10_moveHome 7 = .ok (.iconst 0, 1) := by decide +kernel
theorem dX10_moveHome_8 : decode cX10_moveHome 8 = .ok (.istore 4, 2) := by decide +kernel
theorem dX10_moveHome_10 : decode cX10_moveHome 10 = .ok (.iload 4, 2) := by decide +kernel
theorem dX10_moveHome_12 : decode cX10_moveHome 12 = .ok (.bipush 24, 2) := by decide +kernel
theorem dX10_moveHome_14 : decode cX10_moveHome 14 = .ok (.if_icmp .ge 61, 3) := by decide +kernel
theorem dX10_moveHome_17 : decode cX10_moveHome 17 = .ok (.aload_n 0, 1) := by decide +kernel
theorem dX10_moveHome_18 : decode cX10_moveHome 18 = .ok (.getfield 9, 3) := by decide +kernel
theorem dX10_moveHome_21 : decode cX10_moveHome 21 = .ok (.iload 4, 2) := by decide +kernel
theorem dX10_moveHome_23 : decode cX10_moveHome 23 = .ok (.iaload, 1) := by decide +kernel
theorem dX10_moveHome_24 : decode cX10_moveHome 24 = .ok (.ifCond .ne 6, 3) := by decide +kernel
theorem dX10_moveHome_27 : decode cX10_moveHome 27 = .ok (.goto 42, 3) := by decide +kernel
theorem dX10_moveHome_30 : decode cX10_moveHome 30 = .ok (.iload_n 1, 1) := by decide +kernel
theorem dX10_moveHome_31 : decode cX10_moveHome 31 = .ok (.iload 4, 2) := by decide +kernel
theorem dX10_moveHome_33 : decode cX10_moveHome 33 = .ok (.invokestatic 68, 3) := by decide +kernel
theorem dX10_moveHome_36 : decode cX10_moveHome 36 = .ok (.istore_n 1, 1) := by decide +kernel
theorem dX10_moveHome_37 : decode cX10_moveHome 37 = .ok (.iload 4, 2) := by decide +kernel
theorem dX10_moveHome_39 : decode cX10_moveHome 39 = .ok (.istore_n 2, 1) := by decide +kernel
theorem dX10_moveHome_40 : decode cX10_moveHome 40 = .ok (.iload_n 3, 1) := by decide +kernel
theorem dX10_moveHome_41 : decode cX10_moveHome 41 = .ok (.aload_n 0, 1) := by decide +kernel
theorem dX10_moveHome_42 : decode cX10_moveHome 42 = .ok (.getfield 9, 3) := by decide +kernel
theorem dX10_moveHome_45 : decode cX10_moveHome 45 = .ok (.iload 4, 2) := by decide +kernel
theorem dX10_moveHome_47 : decode cX10_moveHome 47 = .ok (.iaload, 1) := by decide +kernel
theorem dX10_moveHome_48 : decode cX10_moveHome 48 = .ok (.ior, 1) := by decide +kernel
theorem dX10_moveHome_49 : decode cX10_moveHome 49 = .ok (.istore_n 3, 1) := by decide +kernel
theorem dX10_moveHome_50 : decode cX10_moveHome 50 = .ok (.aload_n 0, 1) := by decide +kernel
theorem dX10_moveHome_51 : decode cX10_moveHome 51 = .ok (.dup, 1) := by decide +kernel
theorem dX10_moveHome_52 : decode cX10_moveHome 52 = .ok (.getfield 24, 3) := by decide +kernel
theorem dX10_moveHome_55 : decode cX10_moveHome 55 = .ok (.aload_n 0, 1) := by decide +kernel
theorem dX10_moveHome_56 : decode cX10_moveHome 56 = .ok (.getfield 9, 3) := by decide +kernel
theorem dX10_moveHome_59 : decode cX10_moveHome 59 = .ok (.iload 4, 2) := by decide +kernel
theorem dX10_moveHome_61 : decode cX10_moveHome 61 = .ok (.iaload, 1) := by decide +kernel
theorem dX10_moveHome_62 : decode cX10_moveHome 62 = .ok (.invokestatic 77, 3) := by decide +kernel
theorem dX10_moveHome_65 : decode cX10_moveHome 65 = .ok (.iadd, 1) := by decide +kernel
theorem dX10_moveHome_66 : decode cX10_moveHome 66 = .ok (.putfield 24, 3) := by decide +kernel
theorem dX10_moveHome_69 : decode cX10_moveHome 69 = .ok (.iinc 4 1, 3) := by decide +kernel
theorem dX10_moveHome_72 : decode cX10_moveHome 72 = .ok (.goto (-62), 3) := by decide +kernel
theorem dX10_moveHome_75 : decode cX10_moveHome 75 = .ok (.aload_n 0, 1) := by decide +kernel
theorem dX10_moveHome_76 : decode cX10_moveHome 76 = .ok (.iconst 0, 1) := by decide +kernel
theorem dX10_moveHome_77 : decode cX10_moveHome 77 = .ok (.iload_n 2, 1) := by decide +kernel
theorem dX10_moveHome_78 : decode cX10_moveHome 78 = .ok (.iload_n 1, 1) := by decide +kernel
theorem dX10_moveHome_79 : decode cX10_moveHome 79 = .ok (.isub, 1) := by decide +kernel
theorem dX10_moveHome_80 : decode cX10_moveHome 80 = .ok (.iconst 1, 1) := by decide +kernel
theorem dX10_moveHome_81 : decode cX10_moveHome 81 = .ok (.iadd, 1) := by decide +kernel
theorem dX10_moveHome_82 : decode cX10_moveHome 82 = .ok (.invokestatic 74, 3) := by decide +kernel
theorem dX10_moveHome_85 : decode cX10_moveHome 85 = .ok (.putfield 83, 3) := by decide +kernel
theorem dX10_moveHome_88 : decode cX10_moveHome 88 = .ok (.iconst 0, 1) := by decide +kernel
theorem dX10_moveHome_89 : decode cX10_moveHome 89 = .ok (.istore 4, 2) := by decide +kernel
theorem dX10_moveHome_91 : decode cX10_moveHome 91 = .ok (.iload 4, 2) := by decide +kernel
theorem dX10_moveHome_93 : decode cX10_moveHome 93 = .ok (.bipush 24, 2) := by decide +kernel
theorem dX10_moveHome_95 : decode cX10_moveHome 95 = .ok (.if_icmp .ge 18, 3) := by decide +kernel
theorem dX10_moveHome_98 : decode cX10_moveHome 98 = .ok (.iload_n 3, 1) := by decide +kernel
theorem dX10_moveHome_99 : decode cX10_moveHome 99 = .ok (.iload 4, 2) := by decide +kernel
theorem dX10_moveHome_101 : decode cX10_moveHome 101 = .ok (.ishr, 1) := by decide +kernel
theorem dX10_moveHome_102 : decode cX10_moveHome 102 = .ok (.iconst 1, 1) := by decide +kernel
theorem dX10_moveHome_103 : decode cX10_moveHome 103 = .ok (.iand, 1) := by decide +kernel
theorem dX10_moveHome_104 : decode cX10_moveHome 104 = .ok (.ifCond .ne 9, 3) := by decide +kernel
theorem dX10_moveHome_107 : decode cX10_moveHome 107 = .ok (.iinc 4 1, 3) := by decide +kernel
theorem dX10_moveHome_110 : decode cX10_moveHome 110 = .ok (.goto (-19), 3) := by decide +kernel
theorem dX10_moveHome_113 : decode cX10_moveHome 113 = .ok (.aload_n 0, 1) := by decide +kernel
theorem dX10_moveHome_114 : decode cX10_moveHome 114 = .ok (.iconst 0, 1) := by decide +kernel
theorem dX10_moveHome_115 : decode cX10_moveHome 115 = .ok (.putfield 86, 3) := by decide +kernel
theorem dX10_moveHome_118 : decode cX10_moveHome 118 = .ok (.iload 4, 2) := by decide +kernel
theorem dX10_moveHome_120 : decode cX10_moveHome 120 = .ok (.istore 5, 2) := by decide +kernel
theorem dX10_moveHome_122 : decode cX10_moveHome 122 = .ok (.iload 5, 2) := by decide +kernel
theorem dX10_moveHome_124 : decode cX10_moveHome 124 = .ok (.bipush 24, 2) := by decide +kernel
theorem dX10_moveHome_126 : decode cX10_moveHome 126 = .ok (.if_icmp .ge 29, 3) := by decide +kernel
theorem dX10_moveHome_129 : decode cX10_moveHome 129 = .ok (.iload_n 3, 1) := by decide +kernel
theorem dX10_moveHome_130 : decode cX10_moveHome 130 = .ok (.iload 5, 2) := by decide +kernel
theorem dX10_moveHome_132 : decode cX10_moveHome 132 = .ok (.ishr, 1) := by decide +kernel
theorem dX10_moveHome_133 : decode cX10_moveHome 133 = .ok (.iconst 1, 1) := by decide +kernel
theorem dX10_moveHome_134 : decode cX10_moveHome 134 = .ok (.iand, 1) := by decide +kernel
theorem dX10_moveHome_135 : decode cX10_moveHome 135 = .ok (.ifCond .eq 14, 3) := by decide +kernel
theorem dX10_moveHome_138 : decode cX10_moveHome 138 = .ok (.aload_n 0, 1) := by decide +kernel
theorem dX10_moveHome_139 : decode cX10_moveHome 139 = .ok (.iload 5, 2) := by decide +kernel
theorem dX10_moveHome_141 : decode cX10_moveHome 141 = .ok (.iload 4, 2) := by decide +kernel
theorem dX10_moveHome_143 : decode cX10_moveHome 143 = .ok (.isub, 1) := by decide +kernel
theorem dX10_moveHome_144 : decode cX10_moveHome 144 = .ok (.iconst 1, 1) := by decide +kernel
theorem dX10_moveHome_145 : decode cX10_moveHome 145 = .ok (.iadd, 1) := by decide +kernel
theorem dX10_moveHome_146 : decode cX10_moveHome 146 = .ok (.putfield 86, 3) := by decide +kernel
theorem dX10_moveHome_149 : decode cX10_moveHome 149 = .ok (.iinc 5 1, 3) := by decide +kernel
theorem dX10_moveHome_152 : decode cX10_moveHome 152 = .ok (.goto (-30), 3) := by decide +kernel
theorem dX10_moveHome_155 : decode cX10_moveHome 155 = .ok (.iconst 0, 1) := by decide +kernel
theorem dX10_moveHome_156 : decode cX10_moveHome 156 = .ok (.istore 5, 2) := by decide +kernel
theorem dX10_moveHome_158 : decode cX10_moveHome 158 = .ok (.iload 5, 2) := by decide +kernel
theorem dX10_moveHome_160 : decode cX10_moveHome 160 = .ok (.bipush 24, 2) := by decide +kernel
theorem dX10_moveHome_162 : decode cX10_moveHome 162 = .ok (.if_icmp .ge 41, 3) := by decide +kernel
theorem dX10_moveHome_165 : decode cX10_moveHome 165 = .ok (.aload_n 0, 1) := by decide +kernel
theorem dX10_moveHome_166 : decode cX10_moveHome 166 = .ok (.getfield 9, 3) := by decide +kernel
theorem dX10_moveHome_169 : decode cX10_moveHome 169 = .ok (.iload 5, 2) := by decide +kernel
theorem dX10_moveHome_171 : decode cX10_moveHome 171 = .ok (.iload 5, 2) := by decide +kernel
theorem dX10_moveHome_173 : decode cX10_moveHome 173 = .ok (.aload_n 0, 1) := by decide +kernel
theorem dX10_moveHome_174 : decode cX10_moveHome 174 = .ok (.getfield 83, 3) := by decide +kernel
theorem dX10_moveHome_177 : decode cX10_moveHome 177 = .ok (.if_icmp .ge 18, 3) := by decide +kernel
theorem dX10_moveHome_180 : decode cX10_moveHome 180 = .ok (.aload_n 0, 1) := by decide +kernel
theorem dX10_moveHome_181 : decode cX10_moveHome 181 = .ok (.getfield 9, 3) := by decide +kernel
theorem dX10_moveHome_184 : decode cX10_moveHome 184 = .ok (.iload 5, 2) := by decide +kernel
theorem dX10_moveHome_186 : decode cX10_moveHome 186 = .ok (.iload_n 1, 1) := by decide +kernel
theorem dX10_moveHome_187 : decode cX10_moveHome 187 = .ok (.iadd, 1) := by decide +kernel
theorem dX10_moveHome_188 : decode cX10_moveHome 188 = .ok (.iaload, 1) := by decide +kernel
theorem dX10_moveHome_189 : decode cX10_moveHome 189 = .ok (.iload 4, 2) := by decide +kernel
theorem dX10_moveHome_191 : decode cX10_moveHome 191 = .ok (.ishr, 1) := by decide +kernel
theorem dX10_moveHome_192 : decode cX10_moveHome 192 = .ok (.goto 4, 3) := by decide +kernel
theorem dX10_moveHome_195 : decode cX10_moveHome 195 = .ok (.iconst 0, 1) := by decide +kernel
theorem dX10_moveHome_196 : decode cX10_moveHome 196 = .ok (.iastore, 1) := by decide +kernel
theorem dX10_moveHome_197 : decode cX10_moveHome 197 = .ok (.iinc 5 1, 3) := by decide +kernel
theorem dX10_moveHome_200 : decode cX10_moveHome 200 = .ok (.goto (-42), 3) := by decide +kernel
theorem dX10_moveHome_203 : decode cX10_moveHome 203 = .ok (.return_, 1) := by decide +kernel
set_option maxRecDepth 100000 in
set_option maxHeartbeats 4000000 in
theorem wp_X10_moveHome {n0 d : Nat} {K : z_K} {I : z_I} {L : z_L} {Q : z_q} {o0 : Nat} (h : Z n0 xX10_moveHome (d + 1) 0 0 10 [(0, .ref (n0 + o0)), (1, .int 24), (2, .int (-1)), (3, .int 0), (4, .int 0)] [] K I L (z_q0 K Q)) : RM0 n0 xX10_moveHome (d + 1) [.ref (n0 + o0)] K I L Q := by
  refine z_entry0 (by decide) (Nat.le_of_ble_eq_true rfl) ?_
  change Z n0 xX10_moveHome (d + 1) 0 0 0 [(0, .ref (n0 + o0))] [] K I L (z_q0 K Q)
  refine z_bipush 24 dX10_moveHome_0 (by decide) ?_
  refine z_istore_n [1, 0] [(0, .ref (n0 + o0)), (1, .int 24)] dX10_moveHome_2 (by decide) rfl ?_
  refine z_iconst (-1) dX10_moveHome_3 (by decide) ?_
  refine z_istore_n [1, 2, 0] [(0, .ref (n0 + o0)), (1, .int 24), (2, .int (-1))] dX10_moveHome_4 (by decide) rfl ?_
  refine z_iconst 0 dX10_moveHome_5 (by decide) ?_
  refine z_istore_n [1, 2, 3, 0] [(0, .ref (n0 + o0)), (1, .int 24), (2, .int (-1)), (3, .int 0)] dX10_moveHome_6 (by decide) rfl ?_
  refine z_iconst 0 dX10_moveHome_7 (by decide) ?_
  refine z_istore [1, 2, 3, 4, 0] [(0, .ref (n0 + o0)), (1, .int 24), (2, .int (-1)), (3, .int 0), (4, .int 0)] dX10_moveHome_8 (by decide) rfl ?_
  exact h
set_option maxRecDepth 100000 in
set_option maxHeartbeats 4000000 in
theorem wp_X10_moveHome_10 {n0 d : Nat} {rc rs : Nat} {K : z_K} {I : z_I} {L : z_L} {Q : z_q} {o0 : Nat} {a1 : Int32} {a2 : Int32} {a3 : Int32} {a4 : Int32} (h : (if a4 < 24 then o0 < K.1 ∧ (K.2.1 o0).1 = 10 ∧ (∃ q6, K.2.2 o0 0 = some q6 ∧ ∃ n7, q6 < K.1 ∧ K.2.1 q6 = (20, n7) ∧ vp_in a4 n7 ∧ (if ((I q6 a4.toNatClampNeg) : Int32) = 0 then Z n0 xX10_moveHome (d + 1) rc rs 10 [(0, .ref (n0 + o0)), (1, .int a1), (2, .int a2), (3, .int a3), (4, .int (a4 + 1))] [] K I L (z_q0 K Q) else RM0 n0 xJ6_bitCount_0f7a4 d [.int (I q6 a4.toNatClampNeg)] K I L (fun vv I12 L13 => ∃ r14 : Int32, vv = some (.int r14) ∧ Z n0 xX10_moveHome (d + 1) rc rs 10 [(0, .ref (n0 + o0)), (1, .int (if a4 < a1 then a4 else a1)), (2, .int a4), (3, .int (a3 ||| (I q6 a4.toNatClampNeg))), (4, .int (a4 + 1))] [] K (zI I12 o0 4 ((I o0 4) + r14)) L13 (z_q0 K Q)))) else o0 < K.1 ∧ (K.2.1 o0).1 = 10 ∧ Z n0 xX10_moveHome (d + 1) rc rs 91 [(0, .ref (n0 + o0)), (1, .int a1), (3, .int a3), (4, .int 0)] [] K (zI I o0 2 (if 0 < ((a2 - a1) + 1) then ((a2 - a1) + 1) else 0)) L (z_q0 K Q))) : Z n0 xX10_moveHome (d + 1) rc rs 10 [(0, .ref (n0 + o0)), (1, .int a1), (2, .int a2), (3, .int a3), (4, .int a4)] [] K I L (z_q0 K Q) := by
  refine z_iload 4 dX10_moveHome_10 rfl ?_
  refine z_bipush 24 dX10_moveHome_12 (by decide) ?_
  refine z_icmp_ge 75 dX10_moveHome_14 (by decide) (fun g1 => ?_) (fun g1 => ?_)
  · rw [if_neg g1] at h
    refine z_aload_n 0 dX10_moveHome_75 rfl ?_
    refine z_iconst 0 dX10_moveHome_76 (by decide) ?_
    refine z_iload_n 2 dX10_moveHome_77 rfl ?_
    refine z_iload_n 1 dX10_moveHome_78 rfl ?_
    refine z_isub dX10_moveHome_79 ?_
    refine z_iconst 1 dX10_moveHome_80 (by decide) ?_
    refine z_iadd dX10_moveHome_81 ?_
    refine z_mmax dX10_moveHome_82 wg_1113 (by omega) (Nat.le_of_ble_eq_true rfl) ?_
    obtain ⟨o2, o3, h⟩ := h
    refine fp_10_83 rfl dX10_moveHome_85 o2 o3 ?_
    refine z_iconst 0 dX10_moveHome_88 (by decide) ?_
    refine z_istore [1, 2, 3, 4, 0] [(0, .ref (n0 + o0)), (1, .int a1), (2, .int a2), (3, .int a3), (4, .int 0)] dX10_moveHome_89 (by decide) rfl ?_
    refine z_sub [0, 1, 3, 4] rfl ?_
    exact h
  · rw [if_pos g1] at h
    refine z_aload_n 0 dX10_moveHome_17 rfl ?_
    obtain ⟨o4, o5, h⟩ := h
    obtain ⟨q6, q6e, h⟩ := h
    refine fg_10_9 (some q6) rfl dX10_moveHome_18 o4 o5 q6e ?_
    refine z_iload 4 dX10_moveHome_21 rfl ?_
    obtain ⟨n7, o8, o9, o10, h⟩ := h
    refine z_iald (I q6 a4.toNatClampNeg) dX10_moveHome_23 o8 o9 o10 rfl ?_
    refine z_if_ne 30 dX10_moveHome_24 (by decide) (fun g11 => ?_) (fun g11 => ?_)
    · rw [if_neg g11] at h
      refine z_iload_n 1 dX10_moveHome_30 rfl ?_
      refine z_iload 4 dX10_moveHome_31 rfl ?_
      refine z_mmin dX10_moveHome_33 wg_1112 (by omega) (Nat.le_of_ble_eq_true rfl) ?_
      refine z_istore_n [1, 0, 2, 3, 4] [(0, .ref (n0 + o0)), (1, .int (if a4 < a1 then a4 else a1)), (2, .int a2), (3, .int a3), (4, .int a4)] dX10_moveHome_36 (by decide) rfl ?_
      refine z_iload 4 dX10_moveHome_37 rfl ?_
      refine z_istore_n [1, 2, 0, 3, 4] [(0, .ref (n0 + o0)), (1, .int (if a4 < a1 then a4 else a1)), (2, .int a4), (3, .int a3), (4, .int a4)] dX10_moveHome_39 (by decide) rfl ?_
      refine z_iload_n 3 dX10_moveHome_40 rfl ?_
      refine z_aload_n 0 dX10_moveHome_41 rfl ?_
      refine fg_10_9 (some q6) rfl dX10_moveHome_42 o4 o5 q6e ?_
      refine z_iload 4 dX10_moveHome_45 rfl ?_
      refine z_iald (I q6 a4.toNatClampNeg) dX10_moveHome_47 o8 o9 o10 rfl ?_
      refine z_ior dX10_moveHome_48 ?_
      refine z_istore_n [1, 2, 3, 0, 4] [(0, .ref (n0 + o0)), (1, .int (if a4 < a1 then a4 else a1)), (2, .int a4), (3, .int (a3 ||| (I q6 a4.toNatClampNeg))), (4, .int a4)] dX10_moveHome_49 (by decide) rfl ?_
      refine z_aload_n 0 dX10_moveHome_50 rfl ?_
      refine z_dup dX10_moveHome_51 rfl ?_
      refine fg_10_24 (I o0 4) rfl dX10_moveHome_52 o4 o5 rfl ?_
      refine z_aload_n 0 dX10_moveHome_55 rfl ?_
      refine fg_10_9 (some q6) rfl dX10_moveHome_56 o4 o5 q6e ?_
      refine z_iload 4 dX10_moveHome_59 rfl ?_
      refine z_iald (I q6 a4.toNatClampNeg) dX10_moveHome_61 o8 o9 o10 rfl ?_
      refine z_callS0 (As := [.int (I q6 a4.toNatClampNeg)]) (st := [.int (I o0 4), .ref (n0 + o0)]) dX10_moveHome_62 hy_J6_bitCount_0f7a4 wg_1122 wg_1123 (Nat.le_refl _) (Nat.le_of_ble_eq_true rfl) (RM0.mono h ?_)
      clear h
      intro vv I12 L13 h
      obtain ⟨r14, rfl, h⟩ := h
      change Z n0 xX10_moveHome (d + 1) rc rs 65 [(0, .ref (n0 + o0)), (1, .int (if a4 < a1 then a4 else a1)), (2, .int a4), (3, .int (a3 ||| (I q6 a4.toNatClampNeg))), (4, .int a4)] [.int r14, .int (I o0 4), .ref (n0 + o0)] K I12 L13 (z_q0 K Q)
      refine z_iadd dX10_moveHome_65 ?_
      refine fp_10_24 rfl dX10_moveHome_66 o4 o5 ?_
      refine z_iinc (j := 4) (a4 + 1) [1, 2, 3, 4, 0] [(0, .ref (n0 + o0)), (1, .int (if a4 < a1 then a4 else a1)), (2, .int a4), (3, .int (a3 ||| (I q6 a4.toNatClampNeg))), (4, .int (a4 + 1))] dX10_moveHome_69 rfl rfl (by decide) rfl ?_
      refine z_goto 10 dX10_moveHome_72 (by decide) ?_
      exact h
    · rw [if_pos g11] at h
      refine z_goto 69 dX10_moveHome_27 (by decide) ?_
      refine z_iinc (j := 4) (a4 + 1) [1, 2, 3, 4, 0] [(0, .ref (n0 + o0)), (1, .int a1), (2, .int a2), (3, .int a3), (4, .int (a4 + 1))] dX10_moveHome_69 rfl rfl (by decide) rfl ?_
      refine z_goto 10 dX10_moveHome_72 (by decide) ?_
      exact h
set_option maxRecDepth 100000 in
set_option maxHeartbeats 4000000 in
theorem wp_X10_moveHome_91 {n0 d : Nat} {rc rs : Nat} {K : z_K} {I : z_I} {L : z_L} {Q : z_q} {o0 : Nat} {a1 : Int32} {a3 : Int32} {a4 : Int32} (h : (if a4 < 24 then (if ((((a3 : Int32) >>> (a4 &&& 31 : Int32)) &&& 1) : Int32) = 0 then Z n0 xX10_moveHome (d + 1) rc rs 91 [(0, .ref (n0 + o0)), (1, .int a1), (3, .int a3), (4, .int (a4 + 1))] [] K I L (z_q0 K Q) else o0 < K.1 ∧ (K.2.1 o0).1 = 10 ∧ Z n0 xX10_moveHome (d + 1) rc rs 122 [(0, .ref (n0 + o0)), (1, .int a1), (3, .int a3), (4, .int a4), (5, .int a4)] [] K (zI I o0 3 0) L (z_q0 K Q)) else o0 < K.1 ∧ (K.2.1 o0).1 = 10 ∧ Z n0 xX10_moveHome (d + 1) rc rs 122 [(0, .ref (n0 + o0)), (1, .int a1), (3, .int a3), (4, .int a4), (5, .int a4)] [] K (zI I o0 3 0) L (z_q0 K Q))) : Z n0 xX10_moveHome (d + 1) rc rs 91 [(0, .ref (n0 + o0)), (1, .int a1), (3, .int a3), (4, .int a4)] [] K I L (z_q0 K Q) := by
  refine z_iload 3 dX10_moveHome_91 rfl ?_
  refine z_bipush 24 dX10_moveHome_93 (by decide) ?_
  refine z_icmp_ge 113 dX10_moveHome_95 (by decide) (fun g1 => ?_) (fun g1 => ?_)
  · rw [if_neg g1] at h
    refine z_aload_n 0 dX10_moveHome_113 rfl ?_
    refine z_iconst 0 dX10_moveHome_114 (by decide) ?_
    obtain ⟨o2, o3, h⟩ := h
    refine fp_10_86 rfl dX10_moveHome_115 o2 o3 ?_
    refine z_iload 3 dX10_moveHome_118 rfl ?_
    refine z_istore [1, 2, 3, 4, 0] [(0, .ref (n0 + o0)), (1, .int a1), (3, .int a3), (4, .int a4), (5, .int a4)] dX10_moveHome_120 (by decide) rfl ?_
    exact h
  · rw [if_pos g1] at h
    refine z_iload_n 2 dX10_moveHome_98 rfl ?_
    refine z_iload 3 dX10_moveHome_99 rfl ?_
    refine z_ishr dX10_moveHome_101 ?_
    refine z_iconst 1 dX10_moveHome_102 (by decide) ?_
    refine z_iand dX10_moveHome_103 ?_
    refine z_if_ne 113 dX10_moveHome_104 (by decide) (fun g4 => ?_) (fun g4 => ?_)
    · rw [if_neg g4] at h
      refine z_aload_n 0 dX10_moveHome_113 rfl ?_
      refine z_iconst 0 dX10_moveHome_114 (by decide) ?_
      obtain ⟨o5, o6, h⟩ := h
      refine fp_10_86 rfl dX10_moveHome_115 o5 o6 ?_
      refine z_iload 3 dX10_moveHome_118 rfl ?_
      refine z_istore [1, 2, 3, 4, 0] [(0, .ref (n0 + o0)), (1, .int a1), (3, .int a3), (4, .int a4), (5, .int a4)] dX10_moveHome_120 (by decide) rfl ?_
      exact h
    · rw [if_pos g4] at h
      refine z_iinc (j := 3) (a4 + 1) [1, 2, 3, 0] [(0, .ref (n0 + o0)), (1, .int a1), (3, .int a3), (4, .int (a4 + 1))] dX10_moveHome_107 rfl rfl (by decide) rfl ?_
      refine z_goto 91 dX10_moveHome_110 (by decide) ?_
      exact h
set_option maxRecDepth 100000 in
set_option maxHeartbeats 4000000 in
theorem wp_X10_moveHome_122 {n0 d : Nat} {rc rs : Nat} {K : z_K} {I : z_I} {L : z_L} {Q : z_q} {o0 : Nat} {a1 : Int32} {a3 : Int32} {a4 : Int32} {a5 : Int32} (h : (if a5 < 24 then (if ((((a3 : Int32) >>> (a5 &&& 31 : Int32)) &&& 1) : Int32) = 0 then Z n0 xX10_moveHome (d + 1) rc rs 122 [(0, .ref (n0 + o0)), (1, .int a1), (3, .int a3), (4, .int a4), (5, .int (a5 + 1))] [] K I L (z_q0 K Q) else o0 < K.1 ∧ (K.2.1 o0).1 = 10 ∧ Z n0 xX10_moveHome (d + 1) rc rs 122 [(0, .ref (n0 + o0)), (1, .int a1), (3, .int a3), (4, .int a4), (5, .int (a5 + 1))] [] K (zI I o0 3 ((a5 - a4) + 1)) L (z_q0 K Q)) else Z n0 xX10_moveHome (d + 1) rc rs 158 [(0, .ref (n0 + o0)), (1, .int a1), (4, .int a4), (5, .int 0)] [] K I L (z_q0 K Q))) : Z n0 xX10_moveHome (d + 1) rc rs 122 [(0, .ref (n0 + o0)), (1, .int a1), (3, .int a3), (4, .int a4), (5, .int a5)] [] K I L (z_q0 K Q) := by
  refine z_iload 4 dX10_moveHome_122 rfl ?_
  refine z_bipush 24 dX10_moveHome_124 (by decide) ?_
  refine z_icmp_ge 155 dX10_moveHome_126 (by decide) (fun g1 => ?_) (fun g1 => ?_)
  · rw [if_neg g1] at h
    refine z_iconst 0 dX10_moveHome_155 (by decide) ?_
    refine z_istore [1, 2, 3, 4, 0] [(0, .ref (n0 + o0)), (1, .int a1), (3, .int a3), (4, .int a4), (5, .int 0)] dX10_moveHome_156 (by decide) rfl ?_
    refine z_sub [0, 1, 3, 4] rfl ?_
    exact h
  · rw [if_pos g1] at h
    refine z_iload_n 2 dX10_moveHome_129 rfl ?_
    refine z_iload 4 dX10_moveHome_130 rfl ?_
    refine z_ishr dX10_moveHome_132 ?_
    refine z_iconst 1 dX10_moveHome_133 (by decide) ?_
    refine z_iand dX10_moveHome_134 ?_
    refine z_if_eq 149 dX10_moveHome_135 (by decide) (fun g2 => ?_) (fun g2 => ?_)
    · rw [if_pos g2] at h
      refine z_iinc (j := 4) (a5 + 1) [1, 2, 3, 4, 0] [(0, .ref (n0 + o0)), (1, .int a1), (3, .int a3), (4, .int a4), (5, .int (a5 + 1))] dX10_moveHome_149 rfl rfl (by decide) rfl ?_
      refine z_goto 122 dX10_moveHome_152 (by decide) ?_
      exact h
    · rw [if_neg g2] at h
      refine z_aload_n 0 dX10_moveHome_138 rfl ?_
      refine z_iload 4 dX10_moveHome_139 rfl ?_
      refine z_iload 3 dX10_moveHome_141 rfl ?_
      refine z_isub dX10_moveHome_143 ?_
      refine z_iconst 1 dX10_moveHome_144 (by decide) ?_
      refine z_iadd dX10_moveHome_145 ?_
      obtain ⟨o3, o4, h⟩ := h
      refine fp_10_86 rfl dX10_moveHome_146 o3 o4 ?_
      refine z_iinc (j := 4) (a5 + 1) [1, 2, 3, 4, 0] [(0, .ref (n0 + o0)), (1, .int a1), (3, .int a3), (4, .int a4), (5, .int (a5 + 1))] dX10_moveHome_149 rfl rfl (by decide) rfl ?_
      refine z_goto 122 dX10_moveHome_152 (by decide) ?_
      exact h
set_option maxRecDepth 100000 in
set_option maxHeartbeats 4000000 in
theorem wp_X10_moveHome_158 {n0 d : Nat} {rc rs : Nat} {K : z_K} {I : z_I} {L : z_L} {Q : z_q} {o0 : Nat} {a1 : Int32} {a4 : Int32} {a5 : Int32} (h : (if a5 < 24 then o0 < K.1 ∧ (K.2.1 o0).1 = 10 ∧ (∃ q4, K.2.2 o0 0 = some q4 ∧ (if a5 < (I o0 2) then ∃ n11, q4 < K.1 ∧ K.2.1 q4 = (20, n11) ∧ vp_in (a5 + a1) n11 ∧ vp_in a5 n11 ∧ Z n0 xX10_moveHome (d + 1) rc rs 158 [(0, .ref (n0 + o0)), (1, .int a1), (4, .int a4), (5, .int (a5 + 1))] [] K (zI I q4 a5.toNatClampNeg (((I q4 ((a5 + a1).toNatClampNeg)) : Int32) >>> (a4 &&& 31 : Int32))) L (z_q0 K Q) else ∃ n7, q4 < K.1 ∧ K.2.1 q4 = (20, n7) ∧ vp_in a5 n7 ∧ Z n0 xX10_moveHome (d + 1) rc rs 158 [(0, .ref (n0 + o0)), (1, .int a1), (4, .int a4), (5, .int (a5 + 1))] [] K (zI I q4 a5.toNatClampNeg 0) L (z_q0 K Q))) else Q none I L)) : Z n0 xX10_moveHome (d + 1) rc rs 158 [(0, .ref (n0 + o0)), (1, .int a1), (4, .int a4), (5, .int a5)] [] K I L (z_q0 K Q) := by
  refine z_iload 3 dX10_moveHome_158 rfl ?_
  refine z_bipush 24 dX10_moveHome_160 (by decide) ?_
  refine z_icmp_ge 203 dX10_moveHome_162 (by decide) (fun g1 => ?_) (fun g1 => ?_)
  · rw [if_neg g1] at h
    exact z_vret dX10_moveHome_203 rfl ⟨rfl, h⟩
  · rw [if_pos g1] at h
    refine z_aload_n 0 dX10_moveHome_165 rfl ?_
    obtain ⟨o2, o3, h⟩ := h
    obtain ⟨q4, q4e, h⟩ := h
    refine fg_10_9 (some q4) rfl dX10_moveHome_166 o2 o3 q4e ?_
    refine z_iload 3 dX10_moveHome_169 rfl ?_
    refine z_iload 3 dX10_moveHome_171 rfl ?_
    refine z_aload_n 0 dX10_moveHome_173 rfl ?_
    refine fg_10_83 (I o0 2) rfl dX10_moveHome_174 o2 o3 rfl ?_
    refine z_icmp_ge 195 dX10_moveHome_177 (by decide) (fun g6 => ?_) (fun g6 => ?_)
    · rw [if_neg g6] at h
      refine z_iconst 0 dX10_moveHome_195 (by decide) ?_
      obtain ⟨n7, o8, o9, o10, h⟩ := h
      refine z_iast dX10_moveHome_196 o8 o9 o10 ?_
      refine z_iinc (j := 3) (a5 + 1) [1, 2, 3, 0] [(0, .ref (n0 + o0)), (1, .int a1), (4, .int a4), (5, .int (a5 + 1))] dX10_moveHome_197 rfl rfl (by decide) rfl ?_
      refine z_goto 158 dX10_moveHome_200 (by decide) ?_
      exact h
    · rw [if_pos g6] at h
      refine z_aload_n 0 dX10_moveHome_180 rfl ?_
      refine fg_10_9 (some q4) rfl dX10_moveHome_181 o2 o3 q4e ?_
      refine z_iload 3 dX10_moveHome_184 rfl ?_
      refine z_iload_n 1 dX10_moveHome_186 rfl ?_
      refine z_iadd dX10_moveHome_187 ?_
      obtain ⟨n11, o12, o13, o14, h⟩ := h
      refine z_iald (I q4 ((a5 + a1).toNatClampNeg)) dX10_moveHome_188 o12 o13 o14 rfl ?_
      refine z_iload 2 dX10_moveHome_189 rfl ?_
      refine z_ishr dX10_moveHome_191 ?_
      refine z_goto 196 dX10_moveHome_192 (by decide) ?_
      obtain ⟨o15, h⟩ := h
      refine z_iast dX10_moveHome_196 o12 o13 o15 ?_
      refine z_iinc (j := 3) (a5 + 1) [1, 2, 3, 0] [(0, .ref (n0 + o0)), (1, .int a1), (4, .int a4), (5, .int (a5 + 1))] dX10_moveHome_197 rfl rfl (by decide) rfl ?_
      refine z_goto 158 dX10_moveHome_200 (by decide) ?_
      exact h
theorem dX10_turn_0 : decode cX10_turn 0 = .ok (.aload_n 0, 1) := by decide +kernel
theorem dX10_turn_1 : decode cX10_turn 1 = .ok (.getfield 15, 3) := by decide +kernel
theorem dX10_turn_4 : decode cX10_turn 4 = .ok (.iconst 0, 1) := by decide +kernel
theorem dX10_turn_5 : decode cX10_turn 5 = .ok (.invokestatic 18, 3) := by decide +kernel
theorem dX10_turn_8 : decode cX10_turn 8 = .ok (.iconst 0, 1) := by decide +kernel
theorem dX10_turn_9 : decode cX10_turn 9 = .ok (.istore_n 1, 1) := by decide +kernel
theorem dX10_turn_10 : decode cX10_turn 10 = .ok (.iload_n 1, 1) := by decide +kernel
theorem dX10_turn_11 : decode cX10_turn 11 = .ok (.aload_n 0, 1) := by decide +kernel
theorem dX10_turn_12 : decode cX10_turn 12 = .ok (.getfield 83, 3) := by decide +kernel
theorem dX10_turn_15 : decode cX10_turn 15 = .ok (.if_icmp .ge 66, 3) := by decide +kernel
theorem dX10_turn_18 : decode cX10_turn 18 = .ok (.aload_n 0, 1) := by decide +kernel
theorem dX10_turn_19 : decode cX10_turn 19 = .ok (.getfield 9, 3) := by decide +kernel
theorem dX10_turn_22 : decode cX10_turn 22 = .ok (.aload_n 0, 1) := by decide +kernel
theorem dX10_turn_23 : decode cX10_turn 23 = .ok (.getfield 83, 3) := by decide +kernel
theorem dX10_turn_26 : decode cX10_turn 26 = .ok (.iconst 1, 1) := by decide +kernel
theorem dX10_turn_27 : decode cX10_turn 27 = .ok (.isub, 1) := by decide +kernel
theorem dX10_turn_28 : decode cX10_turn 28 = .ok (.iload_n 1, 1) := by decide +kernel
theorem dX10_turn_29 : decode cX10_turn 29 = .ok (.isub, 1) := by decide +kernel
theorem dX10_turn_30 : decode cX10_turn 30 = .ok (.iaload, 1) := by decide +kernel
theorem dX10_turn_31 : decode cX10_turn 31 = .ok (.istore_n 2, 1) := by decide +kernel
theorem dX10_turn_32 : decode cX10_turn 32 = .ok (.iconst 0, 1) := by decide +kernel
theorem dX10_turn_33 : decode cX10_turn 33 = .ok (.istore_n 3, 1) := by decide +kernel
theorem dX10_turn_34 : decode cX10_turn 34 = .ok (.iload_n 3, 1) := by decide +kernel
theorem dX10_turn_35 : decode cX10_turn 35 = .ok (.aload_n 0, 1) := by decide +kernel
theorem dX10_turn_36 : decode cX10_turn 36 = .ok (.getfield 86, 3) := by decide +kernel
theorem dX10_turn_39 : decode cX10_turn 39 = .ok (.if_icmp .ge 36, 3) := by decide +kernel
theorem dX10_turn_42 : decode cX10_turn 42 = .ok (.iload_n 2, 1) := by decide +kernel
theorem dX10_turn_43 : decode cX10_turn 43 = .ok (.iload_n 3, 1) := by decide +kernel
theorem dX10_turn_44 : decode cX10_turn 44 = .ok (.ishr, 1) := by decide +kernel
theorem dX10_turn_45 : decode cX10_turn 45 = .ok (.iconst 1, 1) := by decide +kernel
theorem dX10_turn_46 : decode cX10_turn 46 = .ok (.iand, 1) := by decide +kernel
theorem dX10_turn_47 : decode cX10_turn 47 = .ok (.ifCond .eq 22, 3) := by decide +kernel
theorem dX10_turn_50 : decode cX10_turn 50 = .ok (.aload_n 0, 1) := by decide +kernel
theorem dX10_turn_51 : decode cX10_turn 51 = .ok (.getfield 15, 3) := by decide +kernel
theorem dX10_turn_54 : decode cX10_turn 54 = .ok (.iload_n 1, 1) := by decide +kernel
theorem dX10_turn_55 : decode cX10_turn 55 = .ok (.dup2, 1) := by decide +kernel
theorem dX10_turn_56 : decode cX10_turn 56 = .ok (.iaload, 1) := by decide +kernel
theorem dX10_turn_57 : decode cX10_turn 57 = .ok (.iconst 1, 1) := by decide +kernel
theorem dX10_turn_58 : decode cX10_turn 58 = .ok (.aload_n 0, 1) := by decide +kernel
theorem dX10_turn_59 : decode cX10_turn 59 = .ok (.getfield 86, 3) := by decide +kernel
theorem dX10_turn_62 : decode cX10_turn 62 = .ok (.iconst 1, 1) := by decide +kernel
theorem dX10_turn_63 : decode cX10_turn 63 = .ok (.isub, 1) := by decide +kernel
theorem dX10_turn_64 : decode cX10_turn 64 = .ok (.iload_n 3, 1) := by decide +kernel
theorem dX10_turn_65 : decode cX10_turn 65 = .ok (.isub, 1) := by decide +kernel
theorem dX10_turn_66 : decode cX10_turn 66 = .ok (.ishl, 1) := by decide +kernel
theorem dX10_turn_67 : decode cX10_turn 67 = .ok (.ior, 1) := by decide +kernel
theorem dX10_turn_68 : decode cX10_turn 68 = .ok (.iastore, 1) := by decide +kernel
theorem dX10_turn_69 : decode cX10_turn 69 = .ok (.iinc 3 1, 3) := by decide +kernel
theorem dX10_turn_72 : decode cX10_turn 72 = .ok (.goto (-38), 3) := by decide +kernel
theorem dX10_turn_75 : decode cX10_turn 75 = .ok (.iinc 1 1, 3) := by decide +kernel
theorem dX10_turn_78 : decode cX10_turn 78 = .ok (.goto (-68), 3) := by decide +kernel
theorem dX10_turn_81 : decode cX10_turn 81 = .ok (.return_, 1) := by decide +kernel
set_option maxRecDepth 100000 in
set_option maxHeartbeats 4000000 in
theorem wp_X10_turn {n0 d : Nat} {K : z_K} {I : z_I} {L : z_L} {Q : z_q} {o0 : Nat} (h : o0 < K.1 ∧ (K.2.1 o0).1 = 10 ∧ (∃ q3, K.2.2 o0 1 = some q3 ∧ RM0 n0 xJ7_fill_53178 d [.ref (n0 + q3), .int 0] K I L (fun vv I4 L5 => vv = none ∧ Z n0 xX10_turn (d + 1) 0 0 10 [(0, .ref (n0 + o0)), (1, .int 0)] [] K I4 L5 (z_q0 K Q)))) : RM0 n0 xX10_turn (d + 1) [.ref (n0 + o0)] K I L Q := by
  refine z_entry0 (by decide) (Nat.le_of_ble_eq_true rfl) ?_
  change Z n0 xX10_turn (d + 1) 0 0 0 [(0, .ref (n0 + o0))] [] K I L (z_q0 K Q)
  refine z_aload_n 0 dX10_turn_0 rfl ?_
  obtain ⟨o1, o2, h⟩ := h
  obtain ⟨q3, q3e, h⟩ := h
  refine fg_10_15 (some q3) rfl dX10_turn_1 o1 o2 q3e ?_
  refine z_iconst 0 dX10_turn_4 (by decide) ?_
  refine z_callS0 (As := [.ref (n0 + q3), .int 0]) (st := []) dX10_turn_5 hy_J7_fill_53178 wg_1106 wg_775 (Nat.le_refl _) (Nat.le_of_ble_eq_true rfl) (RM0.mono h ?_)
  clear h
  intro vv I4 L5 h
  obtain ⟨rfl, h⟩ := h
  change Z n0 xX10_turn (d + 1) 0 0 8 [(0, .ref (n0 + o0))] [] K I4 L5 (z_q0 K Q)
  refine z_iconst 0 dX10_turn_8 (by decide) ?_
  refine z_istore_n [1, 0] [(0, .ref (n0 + o0)), (1, .int 0)] dX10_turn_9 (by decide) rfl ?_
  exact h
set_option maxRecDepth 100000 in
set_option maxHeartbeats 4000000 in
theorem wp_X10_turn_10 {n0 d : Nat} {rc rs : Nat} {K : z_K} {I : z_I} {L : z_L} {Q : z_q} {o0 : Nat} {a1 : Int32} (h : o0 < K.1 ∧ (K.2.1 o0).1 = 10 ∧ (if a1 < (I o0 2) then (∃ q4, K.2.2 o0 0 = some q4 ∧ ∃ n5, q4 < K.1 ∧ K.2.1 q4 = (20, n5) ∧ vp_in (((I o0 2) - 1) - a1) n5 ∧ Z n0 xX10_turn (d + 1) rc rs 34 [(0, .ref (n0 + o0)), (1, .int a1), (2, .int (I q4 ((((I o0 2) - 1) - a1).toNatClampNeg))), (3, .int 0)] [] K I L (z_q0 K Q)) else Q none I L)) : Z n0 xX10_turn (d + 1) rc rs 10 [(0, .ref (n0 + o0)), (1, .int a1)] [] K I L (z_q0 K Q) := by
  refine z_iload_n 1 dX10_turn_10 rfl ?_
  refine z_aload_n 0 dX10_turn_11 rfl ?_
  obtain ⟨o1, o2, h⟩ := h
  refine fg_10_83 (I o0 2) rfl dX10_turn_12 o1 o2 rfl ?_
  refine z_icmp_ge 81 dX10_turn_15 (by decide) (fun g3 => ?_) (fun g3 => ?_)
  · rw [if_neg g3] at h
    exact z_vret dX10_turn_81 rfl ⟨rfl, h⟩
  · rw [if_pos g3] at h
    refine z_aload_n 0 dX10_turn_18 rfl ?_
    obtain ⟨q4, q4e, h⟩ := h
    refine fg_10_9 (some q4) rfl dX10_turn_19 o1 o2 q4e ?_
    refine z_aload_n 0 dX10_turn_22 rfl ?_
    refine fg_10_83 (I o0 2) rfl dX10_turn_23 o1 o2 rfl ?_
    refine z_iconst 1 dX10_turn_26 (by decide) ?_
    refine z_isub dX10_turn_27 ?_
    refine z_iload_n 1 dX10_turn_28 rfl ?_
    refine z_isub dX10_turn_29 ?_
    obtain ⟨n5, o6, o7, o8, h⟩ := h
    refine z_iald (I q4 ((((I o0 2) - 1) - a1).toNatClampNeg)) dX10_turn_30 o6 o7 o8 rfl ?_
    refine z_istore_n [1, 2, 0] [(0, .ref (n0 + o0)), (1, .int a1), (2, .int (I q4 ((((I o0 2) - 1) - a1).toNatClampNeg)))] dX10_turn_31 (by decide) rfl ?_
    refine z_iconst 0 dX10_turn_32 (by decide) ?_
    refine z_istore_n [1, 2, 3, 0] [(0, .ref (n0 + o0)), (1, .int a1), (2, .int (I q4 ((((I o0 2) - 1) - a1).toNatClampNeg))), (3, .int 0)] dX10_turn_33 (by decide) rfl ?_
    exact h
set_option maxRecDepth 100000 in
set_option maxHeartbeats 4000000 in
theorem wp_X10_turn_34 {n0 d : Nat} {rc rs : Nat} {K : z_K} {I : z_I} {L : z_L} {Q : z_q} {o0 : Nat} {a1 : Int32} {a2 : Int32} {a3 : Int32} (h : o0 < K.1 ∧ (K.2.1 o0).1 = 10 ∧ (if a3 < (I o0 3) then (if ((((a2 : Int32) >>> (a3 &&& 31 : Int32)) &&& 1) : Int32) = 0 then Z n0 xX10_turn (d + 1) rc rs 34 [(0, .ref (n0 + o0)), (1, .int a1), (2, .int a2), (3, .int (a3 + 1))] [] K I L (z_q0 K Q) else (∃ q5, K.2.2 o0 1 = some q5 ∧ ∃ n6, q5 < K.1 ∧ K.2.1 q5 = (20, n6) ∧ vp_in a1 n6 ∧ Z n0 xX10_turn (d + 1) rc rs 34 [(0, .ref (n0 + o0)), (1, .int a1), (2, .int a2), (3, .int (a3 + 1))] [] K (zI I q5 a1.toNatClampNeg ((I q5 a1.toNatClampNeg) ||| ((1 : Int32) <<< ((((I o0 3) - 1) - a3) &&& 31 : Int32)))) L (z_q0 K Q))) else Z n0 xX10_turn (d + 1) rc rs 10 [(0, .ref (n0 + o0)), (1, .int (a1 + 1))] [] K I L (z_q0 K Q))) : Z n0 xX10_turn (d + 1) rc rs 34 [(0, .ref (n0 + o0)), (1, .int a1), (2, .int a2), (3, .int a3)] [] K I L (z_q0 K Q) := by
  refine z_iload_n 3 dX10_turn_34 rfl ?_
  refine z_aload_n 0 dX10_turn_35 rfl ?_
  obtain ⟨o1, o2, h⟩ := h
  refine fg_10_86 (I o0 3) rfl dX10_turn_36 o1 o2 rfl ?_
  refine z_icmp_ge 75 dX10_turn_39 (by decide) (fun g3 => ?_) (fun g3 => ?_)
  · rw [if_neg g3] at h
    refine z_iinc (j := 1) (a1 + 1) [1, 0, 2, 3] [(0, .ref (n0 + o0)), (1, .int (a1 + 1)), (2, .int a2), (3, .int a3)] dX10_turn_75 rfl rfl (by decide) rfl ?_
    refine z_goto 10 dX10_turn_78 (by decide) ?_
    refine z_sub [0, 1] rfl ?_
    exact h
  · rw [if_pos g3] at h
    refine z_iload_n 2 dX10_turn_42 rfl ?_
    refine z_iload_n 3 dX10_turn_43 rfl ?_
    refine z_ishr dX10_turn_44 ?_
    refine z_iconst 1 dX10_turn_45 (by decide) ?_
    refine z_iand dX10_turn_46 ?_
    refine z_if_eq 69 dX10_turn_47 (by decide) (fun g4 => ?_) (fun g4 => ?_)
    · rw [if_pos g4] at h
      refine z_iinc (j := 3) (a3 + 1) [1, 2, 3, 0] [(0, .ref (n0 + o0)), (1, .int a1), (2, .int a2), (3, .int (a3 + 1))] dX10_turn_69 rfl rfl (by decide) rfl ?_
      refine z_goto 34 dX10_turn_72 (by decide) ?_
      exact h
    · rw [if_neg g4] at h
      refine z_aload_n 0 dX10_turn_50 rfl ?_
      obtain ⟨q5, q5e, h⟩ := h
      refine fg_10_15 (some q5) rfl dX10_turn_51 o1 o2 q5e ?_
      refine z_iload_n 1 dX10_turn_54 rfl ?_
      refine z_dup2 dX10_turn_55 rfl rfl ?_
      obtain ⟨n6, o7, o8, o9, h⟩ := h
      refine z_iald (I q5 a1.toNatClampNeg) dX10_turn_56 o7 o8 o9 rfl ?_
      refine z_iconst 1 dX10_turn_57 (by decide) ?_
      refine z_aload_n 0 dX10_turn_58 rfl ?_
      refine fg_10_86 (I o0 3) rfl dX10_turn_59 o1 o2 rfl ?_
      refine z_iconst 1 dX10_turn_62 (by decide) ?_
      refine z_isub dX10_turn_63 ?_
      refine z_iload_n 3 dX10_turn_64 rfl ?_
      refine z_isub dX10_turn_65 ?_
      refine z_ishl dX10_turn_66 ?_
      refine z_ior dX10_turn_67 ?_
      refine z_iast dX10_turn_68 o7 o8 o9 ?_
      refine z_iinc (j := 3) (a3 + 1) [1, 2, 3, 0] [(0, .ref (n0 + o0)), (1, .int a1), (2, .int a2), (3, .int (a3 + 1))] dX10_turn_69 rfl rfl (by decide) rfl ?_
      refine z_goto 34 dX10_turn_72 (by decide) ?_
      exact h
theorem dX12_days_0 : decode cX12_days 0 = .ok (.iload_n 1, 1) := by decide +kernel
theorem dX12_days_1 : decode cX12_days 1 = .ok (.iconst 1, 1) := by decide +kernel
theorem dX12_days_2 : decode cX12_days 2 = .ok (.if_icmp .ge 10, 3) := by decide +kernel
theorem dX12_days_5 : decode cX12_days 5 = .ok (.aload_n 0, 1) := by decide +kernel
theorem dX12_days_6 : decode cX12_days 6 = .ok (.bipush (-4), 2) := by decide +kernel
theorem dX12_days_8 : decode cX12_days 8 = .ok (.invokevirtual 85, 3) := by decide +kernel
theorem dX12_days_11 : decode cX12_days 11 = .ok (.ireturn, 1) := by decide +kernel
theorem dX12_days_12 : decode cX12_days 12 = .ok (.iload_n 1, 1) := by decide +kernel
theorem dX12_days_13 : decode cX12_days 13 = .ok (.sipush 1000, 3) := by decide +kernel
theorem dX12_days_16 : decode cX12_days 16 = .ok (.aload_n 0, 1) := by decide +kernel
theorem dX12_days_17 : decode cX12_days 17 = .ok (.getfield 89, 3) := by decide +kernel
theorem dX12_days_20 : decode cX12_days 20 = .ok (.isub, 1) := by decide +kernel
theorem dX12_days_21 : decode cX12_days 21 = .ok (.if_icmp .le 10, 3) := by decide +kernel
theorem dX12_days_24 : decode cX12_days 24 = .ok (.aload_n 0, 1) := by decide +kernel
theorem dX12_days_25 : decode cX12_days 25 = .ok (.bipush (-6), 2) := by decide +kernel
theorem dX12_days_27 : decode cX12_days 27 = .ok (.invokevirtual 85, 3) := by decide +kernel
theorem dX12_days_30 : decode cX12_days 30 = .ok (.ireturn, 1) := by decide +kernel
theorem dX12_days_31 : decode cX12_days 31 = .ok (.aload_n 0, 1) := by decide +kernel
theorem dX12_days_32 : decode cX12_days 32 = .ok (.dup, 1) := by decide +kernel
theorem dX12_days_33 : decode cX12_days 33 = .ok (.getfield 89, 3) := by decide +kernel
theorem dX12_days_36 : decode cX12_days 36 = .ok (.iload_n 1, 1) := by decide +kernel
theorem dX12_days_37 : decode cX12_days 37 = .ok (.iadd, 1) := by decide +kernel
theorem dX12_days_38 : decode cX12_days 38 = .ok (.putfield 89, 3) := by decide +kernel
theorem dX12_days_41 : decode cX12_days 41 = .ok (.aload_n 0, 1) := by decide +kernel
theorem dX12_days_42 : decode cX12_days 42 = .ok (.getfield 89, 3) := by decide +kernel
theorem dX12_days_45 : decode cX12_days 45 = .ok (.ireturn, 1) := by decide +kernel
set_option maxRecDepth 100000 in
set_option maxHeartbeats 4000000 in
theorem wp_X12_days {n0 d : Nat} {K : z_K} {I : z_I} {L : z_L} {Q : z_q} {p0 : Int32} (hL : CLay K) (h : (if p0 < 1 then RM0 n0 xX12_refuse d [.ref (n0 + 0), .int (-4)] K I L (fun vv I6 L7 => ∃ r8 : Int32, vv = some (.int r8) ∧ Q (some (.int r8)) I6 L7) else (if (1000 - (I 0 0)) < p0 then RM0 n0 xX12_refuse d [.ref (n0 + 0), .int (-6)] K I L (fun vv I3 L4 => ∃ r5 : Int32, vv = some (.int r5) ∧ Q (some (.int r5)) I3 L4) else Q (some (.int (((I 0 0) + p0)))) (zI I 0 0 ((I 0 0) + p0)) L))) : RM0 n0 xX12_days (d + 1) [.ref (n0 + 0), .int p0] K I L Q := by
  refine z_entry0 (by decide) (Nat.le_of_ble_eq_true rfl) ?_
  change Z n0 xX12_days (d + 1) 0 0 0 [(0, .ref (n0 + 0)), (1, .int p0)] [] K I L (z_q0 K Q)
  refine z_iload_n 1 dX12_days_0 rfl ?_
  refine z_iconst 1 dX12_days_1 (by decide) ?_
  refine z_icmp_ge 12 dX12_days_2 (by decide) (fun g1 => ?_) (fun g1 => ?_)
  · rw [if_neg g1] at h
    refine z_iload_n 1 dX12_days_12 rfl ?_
    refine z_sipush 1000 dX12_days_13 (by decide) ?_
    refine z_aload_n 0 dX12_days_16 rfl ?_
    refine fg_12_89 (I 0 0) rfl dX12_days_17 (co_0 hL).1 (co_0 hL).2 rfl ?_
    refine z_isub dX12_days_20 ?_
    refine z_icmp_le 31 dX12_days_21 (by decide) (fun g2 => ?_) (fun g2 => ?_)
    · rw [if_neg g2] at h
      refine z_aload_n 0 dX12_days_31 rfl ?_
      refine z_dup dX12_days_32 rfl ?_
      refine fg_12_89 (I 0 0) rfl dX12_days_33 (co_0 hL).1 (co_0 hL).2 rfl ?_
      refine z_iload_n 1 dX12_days_36 rfl ?_
      refine z_iadd dX12_days_37 ?_
      refine fp_12_89 rfl dX12_days_38 (co_0 hL).1 (co_0 hL).2 ?_
      refine z_aload_n 0 dX12_days_41 rfl ?_
      refine fg_12_89 (((I 0 0) + p0)) rfl dX12_days_42 (co_0 hL).1 (co_0 hL).2 rfl ?_
      exact z_iret dX12_days_45 rfl ⟨rfl, h⟩
    · rw [if_pos g2] at h
      refine z_aload_n 0 dX12_days_24 rfl ?_
      refine z_bipush (-6) dX12_days_25 (by decide) ?_
      refine z_callV0 (As := [.int (-6)]) (st := []) dX12_days_27 hy_X12_refuse (co_0 hL).1 (co_0 hL).2 (by decide) wg_462 wg_464 wg_0 (Nat.le_refl _) (Nat.le_of_ble_eq_true rfl) (RM0.mono h ?_)
      clear h
      intro vv I3 L4 h
      obtain ⟨r5, rfl, h⟩ := h
      change Z n0 xX12_days (d + 1) 0 0 30 [(0, .ref (n0 + 0)), (1, .int p0)] [.int r5] K I3 L4 (z_q0 K Q)
      exact z_iret dX12_days_30 rfl ⟨rfl, h⟩
  · rw [if_pos g1] at h
    refine z_aload_n 0 dX12_days_5 rfl ?_
    refine z_bipush (-4) dX12_days_6 (by decide) ?_
    refine z_callV0 (As := [.int (-4)]) (st := []) dX12_days_8 hy_X12_refuse (co_0 hL).1 (co_0 hL).2 (by decide) wg_462 wg_464 wg_0 (Nat.le_refl _) (Nat.le_of_ble_eq_true rfl) (RM0.mono h ?_)
    clear h
    intro vv I6 L7 h
    obtain ⟨r8, rfl, h⟩ := h
    change Z n0 xX12_days (d + 1) 0 0 11 [(0, .ref (n0 + 0)), (1, .int p0)] [.int r8] K I6 L7 (z_q0 K Q)
    exact z_iret dX12_days_11 rfl ⟨rfl, h⟩
theorem dX12_table_0 : decode cX12_table 0 = .ok (.iload_n 1, 1) := by decide +kernel
theorem dX12_table_1 : decode cX12_table 1 = .ok (.invokestatic 93, 3) := by decide +kernel
theorem dX12_table_4 : decode cX12_table 4 = .ok (.ifCond .eq 10, 3) := by decide +kernel
theorem dX12_table_7 : decode cX12_table 7 = .ok (.iload_n 2, 1) := by decide +kernel
theorem dX12_table_8 : decode cX12_table 8 = .ok (.invokestatic 97, 3) := by decide +kernel
theorem dX12_table_11 : decode cX12_table 11 = .ok (.ifCond .ne 9, 3) := by decide +kernel
theorem dX12_table_14 : decode cX12_table 14 = .ok (.aload_n 0, 1) := by decide +kernel
theorem dX12_table_15 : decode cX12_table 15 = .ok (.iconst (-1), 1) := by decide +kernel
theorem dX12_table_16 : decode cX12_table 16 = .ok (.invokevirtual 85, 3) := by decide +kernel
theorem dX12_table_19 : decode cX12_table 19 = .ok (.ireturn, 1) := by decide +kernel
theorem dX12_table_20 : decode cX12_table 20 = .ok (.iload_n 3, 1) := by decide +kernel
theorem dX12_table_21 : decode cX12_table 21 = .ok (.iconst 0, 1) := by decide +kernel
theorem dX12_table_22 : decode cX12_table 22 = .ok (.sipush 9999, 3) := by decide +kernel
theorem dX12_table_25 : decode cX12_table 25 = .ok (.invokestatic 100, 3) := by decide +kernel
theorem dX12_table_28 : decode cX12_table 28 = .ok (.istore 4, 2) := by decide +kernel
theorem dX12_table_30 : decode cX12_table 30 = .ok (.iload 4, 2) := by decide +kernel
theorem dX12_table_32 : decode cX12_table 32 = .ok (.ifCond .eq 10, 3) := by decide +kernel
theorem dX12_table_35 : decode cX12_table 35 = .ok (.aload_n 0, 1) := by decide +kernel
theorem dX12_table_36 : decode cX12_table 36 = .ok (.iload 4, 2) := by decide +kernel
theorem dX12_table_38 : decode cX12_table 38 = .ok (.invokevirtual 85, 3) := by decide +kernel
theorem dX12_table_41 : decode cX12_table 41 = .ok (.ireturn, 1) := by decide +kernel
theorem dX12_table_42 : decode cX12_table 42 = .ok (.aload_n 0, 1) := by decide +kernel
theorem dX12_table_43 : decode cX12_table 43 = .ok (.iload_n 1, 1) := by decide +kernel
theorem dX12_table_44 : decode cX12_table 44 = .ok (.iload_n 2, 1) := by decide +kernel
theorem dX12_table_45 : decode cX12_table 45 = .ok (.aload_n 0, 1) := by decide +kernel
theorem dX12_table_46 : decode cX12_table 46 = .ok (.getfield 89, 3) := by decide +kernel
theorem dX12_table_49 : decode cX12_table 49 = .ok (.invokevirtual 104, 3) := by decide +kernel
theorem dX12_table_52 : decode cX12_table 52 = .ok (.istore 5, 2) := by decide +kernel
theorem dX12_table_54 : decode cX12_table 54 = .ok (.iload_n 1, 1) := by decide +kernel
theorem dX12_table_55 : decode cX12_table 55 = .ok (.bipush 11, 2) := by decide +kernel
theorem dX12_table_57 : decode cX12_table 57 = .ok (.imul, 1) := by decide +kernel
theorem dX12_table_58 : decode cX12_table 58 = .ok (.iload_n 2, 1) := by decide +kernel
theorem dX12_table_59 : decode cX12_table 59 = .ok (.iadd, 1) := by decide +kernel
theorem dX12_table_60 : decode cX12_table 60 = .ok (.istore 6, 2) := by decide +kernel
theorem dX12_table_62 : decode cX12_table 62 = .ok (.aload_n 0, 1) := by decide +kernel
theorem dX12_table_63 : decode cX12_table 63 = .ok (.getfield 15, 3) := by decide +kernel
theorem dX12_table_66 : decode cX12_table 66 = .ok (.iload 6, 2) := by decide +kernel
theorem dX12_table_68 : decode cX12_table 68 = .ok (.aaload, 1) := by decide +kernel
theorem dX12_table_69 : decode cX12_table 69 = .ok (.astore 7, 2) := by decide +kernel
theorem dX12_table_71 : decode cX12_table 71 = .ok (.aload 7, 2) := by decide +kernel
theorem dX12_table_73 : decode cX12_table 73 = .ok (.ifnull 24, 3) := by decide +kernel
theorem dX12_table_76 : decode cX12_table 76 = .ok (.aload 7, 2) := by decide +kernel
theorem dX12_table_78 : decode cX12_table 78 = .ok (.getfield 107, 3) := by decide +kernel
theorem dX12_table_81 : decode cX12_table 81 = .ok (.aload_n 0, 1) := by decide +kernel
theorem dX12_table_82 : decode cX12_table 82 = .ok (.getfield 89, 3) := by decide +kernel
theorem dX12_table_85 : decode cX12_table 85 = .ok (.if_icmp .ne 12, 3) := by decide +kernel
theorem dX12_table_88 : decode cX12_table 88 = .ok (.aload 7, 2) := by decide +kernel
theorem dX12_table_90 : decode cX12_table 90 = .ok (.iload_n 3, 1) := by decide +kernel
theorem dX12_table_91 : decode cX12_table 91 = .ok (.putfield 110, 3) := by decide +kernel
theorem dX12_table_94 : decode cX12_table 94 = .ok (.goto 24, 3) := by decide +kernel
theorem dX12_table_97 : decode cX12_table 97 = .ok (.aload_n 0, 1) := by decide +kernel
theorem dX12_table_98 : decode cX12_table 98 = .ok (.getfield 15, 3) := by decide +kernel
theorem dX12_table_101 : decode cX12_table 101 = .ok (.iload 6, 2) := by decide +kernel
theorem dX12_table_103 : decode cX12_table 103 = .ok (.new 13, 3) := by decide +kernel
theorem dX12_table_106 : decode cX12_table 106 = .ok (.dup, 1) := by decide +kernel
theorem dX12_table_107 : decode cX12_table 107 = .ok (.aload_n 0, 1) := by decide +kernel
theorem dX12_table_108 : decode cX12_table 108 = .ok (.getfield 89, 3) := by decide +kernel
theorem dX12_table_111 : decode cX12_table 111 = .ok (.iload_n 3, 1) := by decide +kernel
theorem dX12_table_112 : decode cX12_table 112 = .ok (.aload 7, 2) := by decide +kernel
theorem dX12_table_114 : decode cX12_table 114 = .ok (.invokespecial 113, 3) := by decide +kernel
theorem dX12_table_117 : decode cX12_table 117 = .ok (.aastore, 1) := by decide +kernel
theorem dX12_table_118 : decode cX12_table 118 = .ok (.iload 5, 2) := by decide +kernel
theorem dX12_table_120 : decode cX12_table 120 = .ok (.ireturn, 1) := by decide +kernel
set_option maxRecDepth 100000 in
set_option maxHeartbeats 4000000 in
theorem wp_X12_table {n0 d : Nat} {K : z_K} {I : z_I} {L : z_L} {Q : z_R} {p0 : Int32} {p1 : Int32} {p2 : Int32} (hL : CLay K) (h : RM0 n0 xX12_isMeasure d [.int p0] K I L (fun vv I1 L2 => ∃ r3 : Int32, vv = some (.int r3) ∧ (if r3 = 0 then RM0 n0 xX12_refuse d [.ref (n0 + 0), .int (-1)] K I1 L2 (fun vv I5 L6 => ∃ r7 : Int32, vv = some (.int r7) ∧ Q (some (.int r7)) K I5 L6) else RM0 n0 xX12_isSize d [.int p1] K I1 L2 (fun vv I8 L9 => ∃ r10 : Int32, vv = some (.int r10) ∧ (if r10 = 0 then RM0 n0 xX12_refuse d [.ref (n0 + 0), .int (-1)] K I8 L9 (fun vv I51 L52 => ∃ r53 : Int32, vv = some (.int r53) ∧ Q (some (.int r53)) K I51 L52) else RM0 n0 xX12_outside d [.int p2, .int 0, .int 9999] K I8 L9 (fun vv I12 L13 => ∃ r14 : Int32, vv = some (.int r14) ∧ (if r14 = 0 then RM0 n0 xX12_numberOn d [.ref (n0 + 0), .int p0, .int p1, .int (I12 0 0)] K I12 L13 (fun vv I16 L17 => ∃ r18 : Int32, vv = some (.int r18) ∧ vp_in ((p0 * 11) + p1) 88 ∧ (∀ o20, K.2.2 2 (((p0 * 11) + p1).toNatClampNeg) = o20 → ((o20 = none → (∀ b26, K.1 = b26 → ∀ K23, K23 = zN K 11 0 → ∀ I24, I24 = zI0 I16 b26 → ∀ L25, L25 = zL0 L17 b26 → CLay K23 ∧ RM n0 xX11_init d 0 0 [.ref (n0 + b26), .int (I24 0 0), .int p2, .null] K23 I24 L25 (fun vv K30 I28 L29 => vv = none ∧ CLay K30 ∧ b26 < K30.1 ∧ (K30.2.1 b26).1 = 11 ∧ Q (some (.int r18)) (zR K30 2 (((p0 * 11) + p1).toNatClampNeg) (some b26)) I28 L29))) ∧ (∀ q22, o20 = some q22 → q22 < K.1 ∧ (K.2.1 q22).1 = 11 ∧ (if ((I16 q22 0) : Int32) = (I16 0 0) then Q (some (.int r18)) K (zI I16 q22 1 p2) L17 else (∀ b40, K.1 = b40 → ∀ K37, K37 = zN K 11 0 → ∀ I38, I38 = zI0 I16 b40 → ∀ L39, L39 = zL0 L17 b40 → CLay K37 ∧ RM n0 xX11_init d 0 0 [.ref (n0 + b40), .int (I38 0 0), .int p2, .ref (n0 + q22)] K37 I38 L39 (fun vv K44 I42 L43 => vv = none ∧ CLay K44 ∧ b40 < K44.1 ∧ (K44.2.1 b40).1 = 11 ∧ Q (some (.int r18)) (zR K44 2 (((p0 * 11) + p1).toNatClampNeg) (some b40)) I42 L43))))))) else RM0 n0 xX12_refuse d [.ref (n0 + 0), .int r14] K I12 L13 (fun vv I48 L49 => ∃ r50 : Int32, vv = some (.int r50) ∧ Q (some (.int r50)) K I48 L49)))))))) : RM n0 xX12_table (d + 1) 1 3 [.ref (n0 + 0), .int p0, .int p1, .int p2] K I L Q := by
  refine z_entry (by decide) (Nat.le_of_ble_eq_true rfl) ?_
  change Z n0 xX12_table (d + 1) 1 3 0 [(0, .ref (n0 + 0)), (1, .int p0), (2, .int p1), (3, .int p2)] [] K I L Q
  refine z_iload_n 1 dX12_table_0 rfl ?_
  refine z_callS0 (As := [.int p0]) (st := []) dX12_table_1 hy_X12_isMeasure wg_470 wg_471 (Nat.le_refl _) (Nat.le_of_ble_eq_true rfl) (RM0.mono h ?_)
  clear h
  intro vv I1 L2 h
  obtain ⟨r3, rfl, h⟩ := h
  change Z n0 xX12_table (d + 1) 1 3 4 [(0, .ref (n0 + 0)), (1, .int p0), (2, .int p1), (3, .int p2)] [.int r3] K I1 L2 Q
  refine z_if_eq 14 dX12_table_4 (by decide) (fun g4 => ?_) (fun g4 => ?_)
  · rw [if_pos g4] at h
    refine z_aload_n 0 dX12_table_14 rfl ?_
    refine z_iconst (-1) dX12_table_15 (by decide) ?_
    refine z_callV0 (As := [.int (-1)]) (st := []) dX12_table_16 hy_X12_refuse (co_0 hL).1 (co_0 hL).2 (by decide) wg_462 wg_464 wg_0 (Nat.le_refl _) (Nat.le_of_ble_eq_true rfl) (RM0.mono h ?_)
    clear h
    intro vv I5 L6 h
    obtain ⟨r7, rfl, h⟩ := h
    change Z n0 xX12_table (d + 1) 1 3 19 [(0, .ref (n0 + 0)), (1, .int p0), (2, .int p1), (3, .int p2)] [.int r7] K I5 L6 Q
    exact z_iret dX12_table_19 rfl h
  · rw [if_neg g4] at h
    refine z_iload_n 2 dX12_table_7 rfl ?_
    refine z_callS0 (As := [.int p1]) (st := []) dX12_table_8 hy_X12_isSize wg_473 wg_474 (Nat.le_refl _) (Nat.le_of_ble_eq_true rfl) (RM0.mono h ?_)
    clear h
    intro vv I8 L9 h
    obtain ⟨r10, rfl, h⟩ := h
    change Z n0 xX12_table (d + 1) 1 3 11 [(0, .ref (n0 + 0)), (1, .int p0), (2, .int p1), (3, .int p2)] [.int r10] K I8 L9 Q
    refine z_if_ne 20 dX12_table_11 (by decide) (fun g11 => ?_) (fun g11 => ?_)
    · rw [if_neg g11] at h
      refine z_iload_n 3 dX12_table_20 rfl ?_
      refine z_iconst 0 dX12_table_21 (by decide) ?_
      refine z_sipush 9999 dX12_table_22 (by decide) ?_
      refine z_callS0 (As := [.int p2, .int 0, .int 9999]) (st := []) dX12_table_25 hy_X12_outside wg_476 wg_477 (Nat.le_refl _) (Nat.le_of_ble_eq_true rfl) (RM0.mono h ?_)
      clear h
      intro vv I12 L13 h
      obtain ⟨r14, rfl, h⟩ := h
      change Z n0 xX12_table (d + 1) 1 3 28 [(0, .ref (n0 + 0)), (1, .int p0), (2, .int p1), (3, .int p2)] [.int r14] K I12 L13 Q
      refine z_istore [1, 2, 3, 4, 0] [(0, .ref (n0 + 0)), (1, .int p0), (2, .int p1), (3, .int p2), (4, .int r14)] dX12_table_28 (by decide) rfl ?_
      refine z_iload 4 dX12_table_30 rfl ?_
      refine z_if_eq 42 dX12_table_32 (by decide) (fun g15 => ?_) (fun g15 => ?_)
      · rw [if_pos g15] at h
        refine z_aload_n 0 dX12_table_42 rfl ?_
        refine z_iload_n 1 dX12_table_43 rfl ?_
        refine z_iload_n 2 dX12_table_44 rfl ?_
        refine z_aload_n 0 dX12_table_45 rfl ?_
        refine fg_12_89 (I12 0 0) rfl dX12_table_46 (co_0 hL).1 (co_0 hL).2 rfl ?_
        refine z_callV0 (As := [.int p0, .int p1, .int (I12 0 0)]) (st := []) dX12_table_49 hy_X12_numberOn (co_0 hL).1 (co_0 hL).2 (by decide) wg_479 wg_481 wg_1 (Nat.le_refl _) (Nat.le_of_ble_eq_true rfl) (RM0.mono h ?_)
        clear h
        intro vv I16 L17 h
        obtain ⟨r18, rfl, h⟩ := h
        change Z n0 xX12_table (d + 1) 1 3 52 [(0, .ref (n0 + 0)), (1, .int p0), (2, .int p1), (3, .int p2), (4, .int r14)] [.int r18] K I16 L17 Q
        refine z_istore [1, 2, 3, 4, 5, 0] [(0, .ref (n0 + 0)), (1, .int p0), (2, .int p1), (3, .int p2), (4, .int r14), (5, .int r18)] dX12_table_52 (by decide) rfl ?_
        refine z_iload_n 1 dX12_table_54 rfl ?_
        refine z_bipush 11 dX12_table_55 (by decide) ?_
        refine z_imul dX12_table_57 ?_
        refine z_iload_n 2 dX12_table_58 rfl ?_
        refine z_iadd dX12_table_59 ?_
        refine z_istore [1, 2, 3, 4, 5, 6, 0] [(0, .ref (n0 + 0)), (1, .int p0), (2, .int p1), (3, .int p2), (4, .int r14), (5, .int r18), (6, .int ((p0 * 11) + p1))] dX12_table_60 (by decide) rfl ?_
        refine z_aload_n 0 dX12_table_62 rfl ?_
        refine fg_12_15 (some 2) rfl dX12_table_63 (co_0 hL).1 (co_0 hL).2 (ca_2 hL).1 ?_
        refine z_iload 6 dX12_table_66 rfl ?_
        obtain ⟨o19, h⟩ := h
        obtain ⟨o20, o20e⟩ : ∃ o, K.2.2 2 (((p0 * 11) + p1).toNatClampNeg) = o := ⟨_, rfl⟩
        replace h := h o20 o20e
        refine z_aald o20 dX12_table_68 (ca_2 hL).2.1 (ca_2 hL).2.2 (by unfold z_rt; decide) o19 o20e ?_
        refine z_astoreO [1, 2, 3, 4, 5, 6, 7, 0] [(0, .ref (n0 + 0)), (1, .int p0), (2, .int p1), (3, .int p2), (4, .int r14), (5, .int r18), (6, .int ((p0 * 11) + p1)), (7, zr n0 o20)] dX12_table_69 (by decide) (fun v hv => by subst hv; rfl) ?_
        refine z_aloadO 7 dX12_table_71 rfl ?_
        refine z_ifnull 97 dX12_table_73 (by decide) (fun g21 => ?_) (fun q22 g21 => ?_)
        · replace h := h.1 g21
          subst g21
          change Z n0 xX12_table (d + 1) 1 3 97 [(0, .ref (n0 + 0)), (1, .int p0), (2, .int p1), (3, .int p2), (4, .int r14), (5, .int r18), (6, .int ((p0 * 11) + p1)), (7, .null)] [] K I16 L17 Q
          refine z_aload_n 0 dX12_table_97 rfl ?_
          refine fg_12_15 (some 2) rfl dX12_table_98 (co_0 hL).1 (co_0 hL).2 (ca_2 hL).1 ?_
          refine z_iload 6 dX12_table_101 rfl ?_
          refine z_new (rc := 0) (rs := 0) (c := 11) dX12_table_103 (by decide) wg_132 wg_483 wg_114 ?_
          obtain ⟨b26, b26e⟩ : ∃ b, K.1 = b := ⟨_, rfl⟩
          obtain ⟨K23, K23e⟩ : ∃ k, k = zN K 11 0 := ⟨_, rfl⟩
          obtain ⟨I24, I24e⟩ : ∃ k, k = zI0 I16 b26 := ⟨_, rfl⟩
          obtain ⟨L25, L25e⟩ : ∃ k, k = zL0 L17 b26 := ⟨_, rfl⟩
          rw [b26e, ← K23e, ← I24e, ← L25e]
          replace h := h b26 b26e K23 K23e I24 I24e L25 L25e
          obtain ⟨hL27, h⟩ := h
          change Z n0 xX12_table (d + 1) 0 0 106 [(0, .ref (n0 + 0)), (1, .int p0), (2, .int p1), (3, .int p2), (4, .int r14), (5, .int r18), (6, .int ((p0 * 11) + p1)), (7, .null)] [.ref (n0 + b26), .int ((p0 * 11) + p1), .ref (n0 + 2)] K23 I24 L25 Q
          refine z_dup dX12_table_106 rfl ?_
          refine z_aload_n 0 dX12_table_107 rfl ?_
          refine fg_12_89 (I24 0 0) rfl dX12_table_108 (co_0 hL27).1 (co_0 hL27).2 rfl ?_
          refine z_iload_n 3 dX12_table_111 rfl ?_
          refine z_aloadN 7 dX12_table_112 rfl ?_
          refine z_callI (rc := 0) (rs := 0) (mc1 := 0) (ms1 := 0) (As := [.int (I24 0 0), .int p2, .null]) (st := [.ref (n0 + b26), .int ((p0 * 11) + p1), .ref (n0 + 2)]) dX12_table_114 hy_X11_init rfl rfl wg_484 wg_485 (Nat.le_refl _) (Nat.le_of_ble_eq_true rfl) (RM.mono h ?_)
          clear h
          intro vv K30 I28 L29 h
          obtain ⟨rfl, h⟩ := h
          obtain ⟨hL31, h⟩ := h
          change Z n0 xX12_table (d + 1) 0 0 117 [(0, .ref (n0 + 0)), (1, .int p0), (2, .int p1), (3, .int p2), (4, .int r14), (5, .int r18), (6, .int ((p0 * 11) + p1)), (7, .null)] [.ref (n0 + b26), .int ((p0 * 11) + p1), .ref (n0 + 2)] K30 I28 L29 Q
          obtain ⟨o32, o33, h⟩ := h
          refine z_aast (t := 41) dX12_table_117 (ca_2 hL31).2.1 (ca_2 hL31).2.2 (by unfold z_rt; decide) o19 o32 o33 ?_
          refine z_iload 5 dX12_table_118 rfl ?_
          exact z_iret dX12_table_120 rfl h
        · replace h := h.2 q22 g21
          subst g21
          change Z n0 xX12_table (d + 1) 1 3 76 [(0, .ref (n0 + 0)), (1, .int p0), (2, .int p1), (3, .int p2), (4, .int r14), (5, .int r18), (6, .int ((p0 * 11) + p1)), (7, .ref (n0 + q22))] [] K I16 L17 Q
          refine z_aload 7 dX12_table_76 rfl ?_
          obtain ⟨o34, o35, h⟩ := h
          refine fg_12_107 (I16 q22 0) rfl dX12_table_78 o34 o35 rfl ?_
          refine z_aload_n 0 dX12_table_81 rfl ?_
          refine fg_12_89 (I16 0 0) rfl dX12_table_82 (co_0 hL).1 (co_0 hL).2 rfl ?_
          refine z_icmp_ne 97 dX12_table_85 (by decide) (fun g36 => ?_) (fun g36 => ?_)
          · rw [if_neg g36] at h
            refine z_aload_n 0 dX12_table_97 rfl ?_
            refine fg_12_15 (some 2) rfl dX12_table_98 (co_0 hL).1 (co_0 hL).2 (ca_2 hL).1 ?_
            refine z_iload 6 dX12_table_101 rfl ?_
            refine z_new (rc := 0) (rs := 0) (c := 11) dX12_table_103 (by decide) wg_132 wg_483 wg_114 ?_
            obtain ⟨b40, b40e⟩ : ∃ b, K.1 = b := ⟨_, rfl⟩
            obtain ⟨K37, K37e⟩ : ∃ k, k = zN K 11 0 := ⟨_, rfl⟩
            obtain ⟨I38, I38e⟩ : ∃ k, k = zI0 I16 b40 := ⟨_, rfl⟩
            obtain ⟨L39, L39e⟩ : ∃ k, k = zL0 L17 b40 := ⟨_, rfl⟩
            rw [b40e, ← K37e, ← I38e, ← L39e]
            replace h := h b40 b40e K37 K37e I38 I38e L39 L39e
            obtain ⟨hL41, h⟩ := h
            change Z n0 xX12_table (d + 1) 0 0 106 [(0, .ref (n0 + 0)), (1, .int p0), (2, .int p1), (3, .int p2), (4, .int r14), (5, .int r18), (6, .int ((p0 * 11) + p1)), (7, .ref (n0 + q22))] [.ref (n0 + b40), .int ((p0 * 11) + p1), .ref (n0 + 2)] K37 I38 L39 Q
            refine z_dup dX12_table_106 rfl ?_
            refine z_aload_n 0 dX12_table_107 rfl ?_
            refine fg_12_89 (I38 0 0) rfl dX12_table_108 (co_0 hL41).1 (co_0 hL41).2 rfl ?_
            refine z_iload_n 3 dX12_table_111 rfl ?_
            refine z_aload 7 dX12_table_112 rfl ?_
            refine z_callI (rc := 0) (rs := 0) (mc1 := 0) (ms1 := 0) (As := [.int (I38 0 0), .int p2, .ref (n0 + q22)]) (st := [.ref (n0 + b40), .int ((p0 * 11) + p1), .ref (n0 + 2)]) dX12_table_114 hy_X11_init rfl rfl wg_484 wg_485 (Nat.le_refl _) (Nat.le_of_ble_eq_true rfl) (RM.mono h ?_)
            clear h
            intro vv K44 I42 L43 h
            obtain ⟨rfl, h⟩ := h
            obtain ⟨hL45, h⟩ := h
            change Z n0 xX12_table (d + 1) 0 0 117 [(0, .ref (n0 + 0)), (1, .int p0), (2, .int p1), (3, .int p2), (4, .int r14), (5, .int r18), (6, .int ((p0 * 11) + p1)), (7, .ref (n0 + q22))] [.ref (n0 + b40), .int ((p0 * 11) + p1), .ref (n0 + 2)] K44 I42 L43 Q
            obtain ⟨o46, o47, h⟩ := h
            refine z_aast (t := 41) dX12_table_117 (ca_2 hL45).2.1 (ca_2 hL45).2.2 (by unfold z_rt; decide) o19 o46 o47 ?_
            refine z_iload 5 dX12_table_118 rfl ?_
            exact z_iret dX12_table_120 rfl h
          · rw [if_pos g36] at h
            refine z_aload 7 dX12_table_88 rfl ?_
            refine z_iload_n 3 dX12_table_90 rfl ?_
            refine fp_12_110 rfl dX12_table_91 o34 o35 ?_
            refine z_goto 118 dX12_table_94 (by decide) ?_
            refine z_iload 5 dX12_table_118 rfl ?_
            exact z_iret dX12_table_120 rfl h
      · rw [if_neg g15] at h
        refine z_aload_n 0 dX12_table_35 rfl ?_
        refine z_iload 4 dX12_table_36 rfl ?_
        refine z_callV0 (As := [.int r14]) (st := []) dX12_table_38 hy_X12_refuse (co_0 hL).1 (co_0 hL).2 (by decide) wg_462 wg_464 wg_0 (Nat.le_refl _) (Nat.le_of_ble_eq_true rfl) (RM0.mono h ?_)
        clear h
        intro vv I48 L49 h
        obtain ⟨r50, rfl, h⟩ := h
        change Z n0 xX12_table (d + 1) 1 3 41 [(0, .ref (n0 + 0)), (1, .int p0), (2, .int p1), (3, .int p2), (4, .int r14)] [.int r50] K I48 L49 Q
        exact z_iret dX12_table_41 rfl h
    · rw [if_pos g11] at h
      refine z_aload_n 0 dX12_table_14 rfl ?_
      refine z_iconst (-1) dX12_table_15 (by decide) ?_
      refine z_callV0 (As := [.int (-1)]) (st := []) dX12_table_16 hy_X12_refuse (co_0 hL).1 (co_0 hL).2 (by decide) wg_462 wg_464 wg_0 (Nat.le_refl _) (Nat.le_of_ble_eq_true rfl) (RM0.mono h ?_)
      clear h
      intro vv I51 L52 h
      obtain ⟨r53, rfl, h⟩ := h
      change Z n0 xX12_table (d + 1) 1 3 19 [(0, .ref (n0 + 0)), (1, .int p0), (2, .int p1), (3, .int p2)] [.int r53] K I51 L52 Q
      exact z_iret dX12_table_19 rfl h
theorem dX12_tabled_0 : decode cX12_tabled 0 = .ok (.iload_n 1, 1) := by decide +kernel
theorem dX12_tabled_1 : decode cX12_tabled 1 = .ok (.invokestatic 93, 3) := by decide +kernel
theorem dX12_tabled_4 : decode cX12_tabled 4 = .ok (.ifCond .eq 10, 3) := by decide +kernel
theorem dX12_tabled_7 : decode cX12_tabled 7 = .ok (.iload_n 2, 1) := by decide +kernel
theorem dX12_tabled_8 : decode cX12_tabled 8 = .ok (.invokestatic 97, 3) := by decide +kernel
theorem dX12_tabled_11 : decode cX12_tabled 11 = .ok (.ifCond .ne 9, 3) := by decide +kernel
theorem dX12_tabled_14 : decode cX12_tabled 14 = .ok (.aload_n 0, 1) := by decide +kernel
theorem dX12_tabled_15 : decode cX12_tabled 15 = .ok (.iconst (-1), 1) := by decide +kernel
theorem dX12_tabled_16 : decode cX12_tabled 16 = .ok (.invokevirtual 85, 3) := by decide +kernel
theorem dX12_tabled_19 : decode cX12_tabled 19 = .ok (.ireturn, 1) := by decide +kernel
theorem dX12_tabled_20 : decode cX12_tabled 20 = .ok (.iload_n 3, 1) := by decide +kernel
theorem dX12_tabled_21 : decode cX12_tabled 21 = .ok (.iconst 0, 1) := by decide +kernel
theorem dX12_tabled_22 : decode cX12_tabled 22 = .ok (.sipush 1000, 3) := by decide +kernel
theorem dX12_tabled_25 : decode cX12_tabled 25 = .ok (.invokestatic 100, 3) := by decide +kernel
theorem dX12_tabled_28 : decode cX12_tabled 28 = .ok (.istore 4, 2) := by decide +kernel
theorem dX12_tabled_30 : decode cX12_tabled 30 = .ok (.iload 4, 2) := by decide +kernel
theorem dX12_tabled_32 : decode cX12_tabled 32 = .ok (.ifCond .eq 10, 3) := by decide +kernel
theorem dX12_tabled_35 : decode cX12_tabled 35 = .ok (.aload_n 0, 1) := by decide +kernel
theorem dX12_tabled_36 : decode cX12_tabled 36 = .ok (.iload 4, 2) := by decide +kernel
theorem dX12_tabled_38 : decode cX12_tabled 38 = .ok (.invokevirtual 85, 3) := by decide +kernel
theorem dX12_tabled_41 : decode cX12_tabled 41 = .ok (.ireturn, 1) := by decide +kernel
theorem dX12_tabled_42 : decode cX12_tabled 42 = .ok (.aload_n 0, 1) := by decide +kernel
theorem dX12_tabled_43 : decode cX12_tabled 43 = .ok (.iload_n 1, 1) := by decide +kernel
theorem dX12_tabled_44 : decode cX12_tabled 44 = .ok (.iload_n 2, 1) := by decide +kernel
theorem dX12_tabled_45 : decode cX12_tabled 45 = .ok (.iload_n 3, 1) := by decide +kernel
theorem dX12_tabled_46 : decode cX12_tabled 46 = .ok (.invokevirtual 104, 3) := by decide +kernel
theorem dX12_tabled_49 : decode cX12_tabled 49 = .ok (.ireturn, 1) := by decide +kernel
set_option maxRecDepth 100000 in
set_option maxHeartbeats 4000000 in
theorem wp_X12_tabled {n0 d : Nat} {K : z_K} {I : z_I} {L : z_L} {Q : z_q} {p0 : Int32} {p1 : Int32} {p2 : Int32} (hL : CLay K) (h : RM0 n0 xX12_isMeasure d [.int p0] K I L (fun vv I1 L2 => ∃ r3 : Int32, vv = some (.int r3) ∧ (if r3 = 0 then RM0 n0 xX12_refuse d [.ref (n0 + 0), .int (-1)] K I1 L2 (fun vv I5 L6 => ∃ r7 : Int32, vv = some (.int r7) ∧ Q (some (.int r7)) I5 L6) else RM0 n0 xX12_isSize d [.int p1] K I1 L2 (fun vv I8 L9 => ∃ r10 : Int32, vv = some (.int r10) ∧ (if r10 = 0 then RM0 n0 xX12_refuse d [.ref (n0 + 0), .int (-1)] K I8 L9 (fun vv I22 L23 => ∃ r24 : Int32, vv = some (.int r24) ∧ Q (some (.int r24)) I22 L23) else RM0 n0 xX12_outside d [.int p2, .int 0, .int 1000] K I8 L9 (fun vv I12 L13 => ∃ r14 : Int32, vv = some (.int r14) ∧ (if r14 = 0 then RM0 n0 xX12_numberOn d [.ref (n0 + 0), .int p0, .int p1, .int p2] K I12 L13 (fun vv I16 L17 => ∃ r18 : Int32, vv = some (.int r18) ∧ Q (some (.int r18)) I16 L17) else RM0 n0 xX12_refuse d [.ref (n0 + 0), .int r14] K I12 L13 (fun vv I19 L20 => ∃ r21 : Int32, vv = some (.int r21) ∧ Q (some (.int r21)) I19 L20)))))))) : RM0 n0 xX12_tabled (d + 1) [.ref (n0 + 0), .int p0, .int p1, .int p2] K I L Q := by
  refine z_entry0 (by decide) (Nat.le_of_ble_eq_true rfl) ?_
  change Z n0 xX12_tabled (d + 1) 0 0 0 [(0, .ref (n0 + 0)), (1, .int p0), (2, .int p1), (3, .int p2)] [] K I L (z_q0 K Q)
  refine z_iload_n 1 dX12_tabled_0 rfl ?_
  refine z_callS0 (As := [.int p0]) (st := []) dX12_tabled_1 hy_X12_isMeasure wg_470 wg_471 (Nat.le_refl _) (Nat.le_of_ble_eq_true rfl) (RM0.mono h ?_)
  clear h
  intro vv I1 L2 h
  obtain ⟨r3, rfl, h⟩ := h
  change Z n0 xX12_tabled (d + 1) 0 0 4 [(0, .ref (n0 + 0)), (1, .int p0), (2, .int p1), (3, .int p2)] [.int r3] K I1 L2 (z_q0 K Q)
  refine z_if_eq 14 dX12_tabled_4 (by decide) (fun g4 => ?_) (fun g4 => ?_)
  · rw [if_pos g4] at h
    refine z_aload_n 0 dX12_tabled_14 rfl ?_
    refine z_iconst (-1) dX12_tabled_15 (by decide) ?_
    refine z_callV0 (As := [.int (-1)]) (st := []) dX12_tabled_16 hy_X12_refuse (co_0 hL).1 (co_0 hL).2 (by decide) wg_462 wg_464 wg_0 (Nat.le_refl _) (Nat.le_of_ble_eq_true rfl) (RM0.mono h ?_)
    clear h
    intro vv I5 L6 h
    obtain ⟨r7, rfl, h⟩ := h
    change Z n0 xX12_tabled (d + 1) 0 0 19 [(0, .ref (n0 + 0)), (1, .int p0), (2, .int p1), (3, .int p2)] [.int r7] K I5 L6 (z_q0 K Q)
    exact z_iret dX12_tabled_19 rfl ⟨rfl, h⟩
  · rw [if_neg g4] at h
    refine z_iload_n 2 dX12_tabled_7 rfl ?_
    refine z_callS0 (As := [.int p1]) (st := []) dX12_tabled_8 hy_X12_isSize wg_473 wg_474 (Nat.le_refl _) (Nat.le_of_ble_eq_true rfl) (RM0.mono h ?_)
    clear h
    intro vv I8 L9 h
    obtain ⟨r10, rfl, h⟩ := h
    change Z n0 xX12_tabled (d + 1) 0 0 11 [(0, .ref (n0 + 0)), (1, .int p0), (2, .int p1), (3, .int p2)] [.int r10] K I8 L9 (z_q0 K Q)
    refine z_if_ne 20 dX12_tabled_11 (by decide) (fun g11 => ?_) (fun g11 => ?_)
    · rw [if_neg g11] at h
      refine z_iload_n 3 dX12_tabled_20 rfl ?_
      refine z_iconst 0 dX12_tabled_21 (by decide) ?_
      refine z_sipush 1000 dX12_tabled_22 (by decide) ?_
      refine z_callS0 (As := [.int p2, .int 0, .int 1000]) (st := []) dX12_tabled_25 hy_X12_outside wg_476 wg_477 (Nat.le_refl _) (Nat.le_of_ble_eq_true rfl) (RM0.mono h ?_)
      clear h
      intro vv I12 L13 h
      obtain ⟨r14, rfl, h⟩ := h
      change Z n0 xX12_tabled (d + 1) 0 0 28 [(0, .ref (n0 + 0)), (1, .int p0), (2, .int p1), (3, .int p2)] [.int r14] K I12 L13 (z_q0 K Q)
      refine z_istore [1, 2, 3, 4, 0] [(0, .ref (n0 + 0)), (1, .int p0), (2, .int p1), (3, .int p2), (4, .int r14)] dX12_tabled_28 (by decide) rfl ?_
      refine z_iload 4 dX12_tabled_30 rfl ?_
      refine z_if_eq 42 dX12_tabled_32 (by decide) (fun g15 => ?_) (fun g15 => ?_)
      · rw [if_pos g15] at h
        refine z_aload_n 0 dX12_tabled_42 rfl ?_
        refine z_iload_n 1 dX12_tabled_43 rfl ?_
        refine z_iload_n 2 dX12_tabled_44 rfl ?_
        refine z_iload_n 3 dX12_tabled_45 rfl ?_
        refine z_callV0 (As := [.int p0, .int p1, .int p2]) (st := []) dX12_tabled_46 hy_X12_numberOn (co_0 hL).1 (co_0 hL).2 (by decide) wg_479 wg_481 wg_1 (Nat.le_refl _) (Nat.le_of_ble_eq_true rfl) (RM0.mono h ?_)
        clear h
        intro vv I16 L17 h
        obtain ⟨r18, rfl, h⟩ := h
        change Z n0 xX12_tabled (d + 1) 0 0 49 [(0, .ref (n0 + 0)), (1, .int p0), (2, .int p1), (3, .int p2), (4, .int r14)] [.int r18] K I16 L17 (z_q0 K Q)
        exact z_iret dX12_tabled_49 rfl ⟨rfl, h⟩
      · rw [if_neg g15] at h
        refine z_aload_n 0 dX12_tabled_35 rfl ?_
        refine z_iload 4 dX12_tabled_36 rfl ?_
        refine z_callV0 (As := [.int r14]) (st := []) dX12_tabled_38 hy_X12_refuse (co_0 hL).1 (co_0 hL).2 (by decide) wg_462 wg_464 wg_0 (Nat.le_refl _) (Nat.le_of_ble_eq_true rfl) (RM0.mono h ?_)
        clear h
        intro vv I19 L20 h
        obtain ⟨r21, rfl, h⟩ := h
        change Z n0 xX12_tabled (d + 1) 0 0 41 [(0, .ref (n0 + 0)), (1, .int p0), (2, .int p1), (3, .int p2), (4, .int r14)] [.int r21] K I19 L20 (z_q0 K Q)
        exact z_iret dX12_tabled_41 rfl ⟨rfl, h⟩
    · rw [if_pos g11] at h
      refine z_aload_n 0 dX12_tabled_14 rfl ?_
      refine z_iconst (-1) dX12_tabled_15 (by decide) ?_
      refine z_callV0 (As := [.int (-1)]) (st := []) dX12_tabled_16 hy_X12_refuse (co_0 hL).1 (co_0 hL).2 (by decide) wg_462 wg_464 wg_0 (Nat.le_refl _) (Nat.le_of_ble_eq_true rfl) (RM0.mono h ?_)
      clear h
      intro vv I22 L23 h
      obtain ⟨r24, rfl, h⟩ := h
      change Z n0 xX12_tabled (d + 1) 0 0 19 [(0, .ref (n0 + 0)), (1, .int p0), (2, .int p1), (3, .int p2)] [.int r24] K I22 L23 (z_q0 K Q)
      exact z_iret dX12_tabled_19 rfl ⟨rfl, h⟩
theorem dX12_body_0 : decode cX12_body 0 = .ok (.iload_n 1, 1) := by decide +kernel
theorem dX12_body_1 : decode cX12_body 1 = .ok (.invokestatic 97, 3) := by decide +kernel
theorem dX12_body_4 : decode cX12_body 4 = .ok (.ifCond .ne 9, 3) := by decide +kernel
theorem dX12_body_7 : decode cX12_body 7 = .ok (.aload_n 0, 1) := by decide +kernel
theorem dX12_body_8 : decode cX12_body 8 = .ok (.iconst (-1), 1) := by decide +kernel
theorem dX12_body_9 : decode cX12_body 9 = .ok (.invokevirtual 85, 3) := by decide +kernel
theorem dX12_body_12 : decode cX12_body 12 = .ok (.ireturn, 1) := by decide +kernel
theorem dX12_body_13 : decode cX12_body 13 = .ok (.aload_n 0, 1) := by decide +kernel
theorem dX12_body_14 : decode cX12_body 14 = .ok (.getfield 116, 3) := by decide +kernel
theorem dX12_body_17 : decode cX12_body 17 = .ok (.bipush 12, 2) := by decide +kernel
theorem dX12_body_19 : decode cX12_body 19 = .ok (.if_icmp .lt 10, 3) := by decide +kernel
theorem dX12_body_22 : decode cX12_body 22 = .ok (.aload_n 0, 1) := by decide +kernel
theorem dX12_body_23 : decode cX12_body 23 = .ok (.bipush (-6), 2) := by decide +kernel
theorem dX12_body_25 : decode cX12_body 25 = .ok (.invokevirtual 85, 3) := by decide +kernel
theorem dX12_body_28 : decode cX12_body 28 = .ok (.ireturn, 1) := by decide +kernel
theorem dX12_body_29 : decode cX12_body 29 = .ok (.aload_n 0, 1) := by decide +kernel
theorem dX12_body_30 : decode cX12_body 30 = .ok (.getfield 21, 3) := by decide +kernel
theorem dX12_body_33 : decode cX12_body 33 = .ok (.aload_n 0, 1) := by decide +kernel
theorem dX12_body_34 : decode cX12_body 34 = .ok (.getfield 116, 3) := by decide +kernel
theorem dX12_body_37 : decode cX12_body 37 = .ok (.new 19, 3) := by decide +kernel
theorem dX12_body_40 : decode cX12_body 40 = .ok (.dup, 1) := by decide +kernel
theorem dX12_body_41 : decode cX12_body 41 = .ok (.iload_n 1, 1) := by decide +kernel
theorem dX12_body_42 : decode cX12_body 42 = .ok (.invokespecial 119, 3) := by decide +kernel
theorem dX12_body_45 : decode cX12_body 45 = .ok (.aastore, 1) := by decide +kernel
theorem dX12_body_46 : decode cX12_body 46 = .ok (.aload_n 0, 1) := by decide +kernel
theorem dX12_body_47 : decode cX12_body 47 = .ok (.dup, 1) := by decide +kernel
theorem dX12_body_48 : decode cX12_body 48 = .ok (.getfield 116, 3) := by decide +kernel
theorem dX12_body_51 : decode cX12_body 51 = .ok (.dup_x1, 1) := by decide +kernel
theorem dX12_body_52 : decode cX12_body 52 = .ok (.iconst 1, 1) := by decide +kernel
theorem dX12_body_53 : decode cX12_body 53 = .ok (.iadd, 1) := by decide +kernel
theorem dX12_body_54 : decode cX12_body 54 = .ok (.putfield 116, 3) := by decide +kernel
theorem dX12_body_57 : decode cX12_body 57 = .ok (.ireturn, 1) := by decide +kernel
set_option maxRecDepth 100000 in
set_option maxHeartbeats 4000000 in
theorem wp_X12_body {n0 d : Nat} {K : z_K} {I : z_I} {L : z_L} {Q : z_R} {p0 : Int32} (hL : CLay K) (h : RM0 n0 xX12_isSize d [.int p0] K I L (fun vv I1 L2 => ∃ r3 : Int32, vv = some (.int r3) ∧ (if r3 = 0 then RM0 n0 xX12_refuse d [.ref (n0 + 0), .int (-1)] K I1 L2 (fun vv I21 L22 => ∃ r23 : Int32, vv = some (.int r23) ∧ Q (some (.int r23)) K I21 L22) else (if ((I1 0 4) : Int32) < 12 then (∀ b9, K.1 = b9 → ∀ K6, K6 = zN K 0 0 → ∀ I7, I7 = zI0 I1 b9 → ∀ L8, L8 = zL0 L2 b9 → CLay K6 ∧ RM n0 xX0_init d 7 218 [.ref (n0 + b9), .int p0] K6 I7 L8 (fun vv K13 I11 L12 => vv = none ∧ CLay K13 ∧ vp_in (I1 0 4) 12 ∧ b9 < K13.1 ∧ (K13.2.1 b9).1 = 0 ∧ Q (some (.int (I11 0 4))) (zR K13 3 ((I1 0 4).toNatClampNeg) (some b9)) (zI I11 0 4 ((I11 0 4) + 1)) L12)) else RM0 n0 xX12_refuse d [.ref (n0 + 0), .int (-6)] K I1 L2 (fun vv I18 L19 => ∃ r20 : Int32, vv = some (.int r20) ∧ Q (some (.int r20)) K I18 L19))))) : RM n0 xX12_body (d + 1) 8 228 [.ref (n0 + 0), .int p0] K I L Q := by
  refine z_entry (by decide) (Nat.le_of_ble_eq_true rfl) ?_
  change Z n0 xX12_body (d + 1) 8 228 0 [(0, .ref (n0 + 0)), (1, .int p0)] [] K I L Q
  refine z_iload_n 1 dX12_body_0 rfl ?_
  refine z_callS0 (As := [.int p0]) (st := []) dX12_body_1 hy_X12_isSize wg_473 wg_474 (Nat.le_refl _) (Nat.le_of_ble_eq_true rfl) (RM0.mono h ?_)
  clear h
  intro vv I1 L2 h
  obtain ⟨r3, rfl, h⟩ := h
  change Z n0 xX12_body (d + 1) 8 228 4 [(0, .ref (n0 + 0)), (1, .int p0)] [.int r3] K I1 L2 Q
  refine z_if_ne 13 dX12_body_4 (by decide) (fun g4 => ?_) (fun g4 => ?_)
  · rw [if_neg g4] at h
    refine z_aload_n 0 dX12_body_13 rfl ?_
    refine fg_12_116 (I1 0 4) rfl dX12_body_14 (co_0 hL).1 (co_0 hL).2 rfl ?_
    refine z_bipush 12 dX12_body_17 (by decide) ?_
    refine z_icmp_lt 29 dX12_body_19 (by decide) (fun g5 => ?_) (fun g5 => ?_)
    · rw [if_pos g5] at h
      refine z_aload_n 0 dX12_body_29 rfl ?_
      refine fg_12_21 (some 3) rfl dX12_body_30 (co_0 hL).1 (co_0 hL).2 (ca_3 hL).1 ?_
      refine z_aload_n 0 dX12_body_33 rfl ?_
      refine fg_12_116 (I1 0 4) rfl dX12_body_34 (co_0 hL).1 (co_0 hL).2 rfl ?_
      refine z_new (rc := 7) (rs := 218) (c := 0) dX12_body_37 (by decide) wg_134 wg_509 wg_115 ?_
      obtain ⟨b9, b9e⟩ : ∃ b, K.1 = b := ⟨_, rfl⟩
      obtain ⟨K6, K6e⟩ : ∃ k, k = zN K 0 0 := ⟨_, rfl⟩
      obtain ⟨I7, I7e⟩ : ∃ k, k = zI0 I1 b9 := ⟨_, rfl⟩
      obtain ⟨L8, L8e⟩ : ∃ k, k = zL0 L2 b9 := ⟨_, rfl⟩
      rw [b9e, ← K6e, ← I7e, ← L8e]
      replace h := h b9 b9e K6 K6e I7 I7e L8 L8e
      obtain ⟨hL10, h⟩ := h
      change Z n0 xX12_body (d + 1) 7 218 40 [(0, .ref (n0 + 0)), (1, .int p0)] [.ref (n0 + b9), .int (I1 0 4), .ref (n0 + 3)] K6 I7 L8 Q
      refine z_dup dX12_body_40 rfl ?_
      refine z_iload_n 1 dX12_body_41 rfl ?_
      refine z_callI (rc := 0) (rs := 0) (mc1 := 7) (ms1 := 218) (As := [.int p0]) (st := [.ref (n0 + b9), .int (I1 0 4), .ref (n0 + 3)]) dX12_body_42 hy_X0_init rfl rfl wg_510 wg_511 (Nat.le_refl _) (Nat.le_of_ble_eq_true rfl) (RM.mono h ?_)
      clear h
      intro vv K13 I11 L12 h
      obtain ⟨rfl, h⟩ := h
      obtain ⟨hL14, h⟩ := h
      change Z n0 xX12_body (d + 1) 0 0 45 [(0, .ref (n0 + 0)), (1, .int p0)] [.ref (n0 + b9), .int (I1 0 4), .ref (n0 + 3)] K13 I11 L12 Q
      obtain ⟨o15, o16, o17, h⟩ := h
      refine z_aast (t := 30) dX12_body_45 (ca_3 hL14).2.1 (ca_3 hL14).2.2 (by unfold z_rt; decide) o15 o16 o17 ?_
      refine z_aload_n 0 dX12_body_46 rfl ?_
      refine z_dup dX12_body_47 rfl ?_
      refine fg_12_116 (I11 0 4) rfl dX12_body_48 (co_0 hL14).1 (co_0 hL14).2 rfl ?_
      refine z_dup_x1 dX12_body_51 rfl rfl ?_
      refine z_iconst 1 dX12_body_52 (by decide) ?_
      refine z_iadd dX12_body_53 ?_
      refine fp_12_116 rfl dX12_body_54 (co_0 hL14).1 (co_0 hL14).2 ?_
      exact z_iret dX12_body_57 rfl h
    · rw [if_neg g5] at h
      refine z_aload_n 0 dX12_body_22 rfl ?_
      refine z_bipush (-6) dX12_body_23 (by decide) ?_
      refine z_callV0 (As := [.int (-6)]) (st := []) dX12_body_25 hy_X12_refuse (co_0 hL).1 (co_0 hL).2 (by decide) wg_462 wg_464 wg_0 (Nat.le_refl _) (Nat.le_of_ble_eq_true rfl) (RM0.mono h ?_)
      clear h
      intro vv I18 L19 h
      obtain ⟨r20, rfl, h⟩ := h
      change Z n0 xX12_body (d + 1) 8 228 28 [(0, .ref (n0 + 0)), (1, .int p0)] [.int r20] K I18 L19 Q
      exact z_iret dX12_body_28 rfl h
  · rw [if_pos g4] at h
    refine z_aload_n 0 dX12_body_7 rfl ?_
    refine z_iconst (-1) dX12_body_8 (by decide) ?_
    refine z_callV0 (As := [.int (-1)]) (st := []) dX12_body_9 hy_X12_refuse (co_0 hL).1 (co_0 hL).2 (by decide) wg_462 wg_464 wg_0 (Nat.le_refl _) (Nat.le_of_ble_eq_true rfl) (RM0.mono h ?_)
    clear h
    intro vv I21 L22 h
    obtain ⟨r23, rfl, h⟩ := h
    change Z n0 xX12_body (d + 1) 8 228 12 [(0, .ref (n0 + 0)), (1, .int p0)] [.int r23] K I21 L22 Q
    exact z_iret dX12_body_12 rfl h
theorem dX12_measure_0 : decode cX12_measure 0 = .ok (.aload_n 0, 1) := by decide +kernel
theorem dX12_measure_1 : decode cX12_measure 1 = .ok (.iload_n 1, 1) := by decide +kernel
theorem dX12_measure_2 : decode cX12_measure 2 = .ok (.invokevirtual 122, 3) := by decide +kernel
theorem dX12_measure_5 : decode cX12_measure 5 = .ok (.astore 4, 2) := by decide +kernel
theorem dX12_measure_7 : decode cX12_measure 7 = .ok (.aload 4, 2) := by decide +kernel
theorem dX12_measure_9 : decode cX12_measure 9 = .ok (.ifnull 10, 3) := by decide +kernel
theorem dX12_measure_12 : decode cX12_measure 12 = .ok (.iload_n 2, 1) := by decide +kernel
theorem dX12_measure_13 : decode cX12_measure 13 = .ok (.invokestatic 93, 3) := by decide +kernel
theorem dX12_measure_16 : decode cX12_measure 16 = .ok (.ifCond .ne 9, 3) := by decide +kernel
theorem dX12_measure_19 : decode cX12_measure 19 = .ok (.aload_n 0, 1) := by decide +kernel
theorem dX12_measure_20 : decode cX12_measure 20 = .ok (.iconst (-1), 1) := by decide +kernel
theorem dX12_measure_21 : decode cX12_measure 21 = .ok (.invokevirtual 126, 3) := by decide +kernel
theorem dX12_measure_24 : decode cX12_measure 24 = .ok (.ireturn, 1) := by decide +kernel
theorem dX12_measure_25 : decode cX12_measure 25 = .ok (.iload_n 3, 1) := by decide +kernel
theorem dX12_measure_26 : decode cX12_measure 26 = .ok (.iconst (-1), 1) := by decide +kernel
theorem dX12_measure_27 : decode cX12_measure 27 = .ok (.sipush 9999, 3) := by decide +kernel
theorem dX12_measure_30 : decode cX12_measure 30 = .ok (.invokestatic 100, 3) := by decide +kernel
theorem dX12_measure_33 : decode cX12_measure 33 = .ok (.istore 5, 2) := by decide +kernel
theorem dX12_measure_35 : decode cX12_measure 35 = .ok (.iload 5, 2) := by decide +kernel
theorem dX12_measure_37 : decode cX12_measure 37 = .ok (.ifCond .eq 10, 3) := by decide +kernel
theorem dX12_measure_40 : decode cX12_measure 40 = .ok (.aload_n 0, 1) := by decide +kernel
theorem dX12_measure_41 : decode cX12_measure 41 = .ok (.iload 5, 2) := by decide +kernel
theorem dX12_measure_43 : decode cX12_measure 43 = .ok (.invokevirtual 126, 3) := by decide +kernel
theorem dX12_measure_46 : decode cX12_measure 46 = .ok (.ireturn, 1) := by decide +kernel
theorem dX12_measure_47 : decode cX12_measure 47 = .ok (.aload 4, 2) := by decide +kernel
theorem dX12_measure_49 : decode cX12_measure 49 = .ok (.getfield 129, 3) := by decide +kernel
theorem dX12_measure_52 : decode cX12_measure 52 = .ok (.iload_n 2, 1) := by decide +kernel
theorem dX12_measure_53 : decode cX12_measure 53 = .ok (.iaload, 1) := by decide +kernel
theorem dX12_measure_54 : decode cX12_measure 54 = .ok (.istore 6, 2) := by decide +kernel
theorem dX12_measure_56 : decode cX12_measure 56 = .ok (.aload 4, 2) := by decide +kernel
theorem dX12_measure_58 : decode cX12_measure 58 = .ok (.getfield 129, 3) := by decide +kernel
theorem dX12_measure_61 : decode cX12_measure 61 = .ok (.iload_n 2, 1) := by decide +kernel
theorem dX12_measure_62 : decode cX12_measure 62 = .ok (.iload_n 3, 1) := by decide +kernel
theorem dX12_measure_63 : decode cX12_measure 63 = .ok (.iastore, 1) := by decide +kernel
theorem dX12_measure_64 : decode cX12_measure 64 = .ok (.iload 6, 2) := by decide +kernel
theorem dX12_measure_66 : decode cX12_measure 66 = .ok (.ireturn, 1) := by decide +kernel
set_option maxRecDepth 100000 in
set_option maxHeartbeats 4000000 in
theorem wp_X12_measure {n0 d : Nat} {K : z_K} {I : z_I} {L : z_L} {Q : z_q} {p0 : Int32} {p1 : Int32} {p2 : Int32} (hL : CLay K) (h : RM0 n0 xX12_bodyOf d [.ref (n0 + 0), .int p0] K I L (fun vv I1 L2 => ∃ r3 : Option Nat, vv = some (zr n0 r3) ∧ ((r3 = none → RM0 n0 xX12_refuseApart d [.ref (n0 + 0), .int (-1)] K I1 L2 (fun vv I6 L7 => ∃ r8 : Int32, vv = some (.int r8) ∧ Q (some (.int r8)) I6 L7)) ∧ (∀ q5, r3 = some q5 → RM0 n0 xX12_isMeasure d [.int p1] K I1 L2 (fun vv I9 L10 => ∃ r11 : Int32, vv = some (.int r11) ∧ (if r11 = 0 then RM0 n0 xX12_refuseApart d [.ref (n0 + 0), .int (-1)] K I9 L10 (fun vv I27 L28 => ∃ r29 : Int32, vv = some (.int r29) ∧ Q (some (.int r29)) I27 L28) else RM0 n0 xX12_outside d [.int p2, .int (-1), .int 9999] K I9 L10 (fun vv I13 L14 => ∃ r15 : Int32, vv = some (.int r15) ∧ (if r15 = 0 then q5 < K.1 ∧ (K.2.1 q5).1 = 0 ∧ (∃ q19, K.2.2 q5 1 = some q19 ∧ ∃ n20, q19 < K.1 ∧ K.2.1 q19 = (20, n20) ∧ vp_in p1 n20 ∧ Q (some (.int (I13 q19 p1.toNatClampNeg))) (zI I13 q19 p1.toNatClampNeg p2) L14) else RM0 n0 xX12_refuseApart d [.ref (n0 + 0), .int r15] K I13 L14 (fun vv I24 L25 => ∃ r26 : Int32, vv = some (.int r26) ∧ Q (some (.int r26)) I24 L25))))))))) : RM0 n0 xX12_measure (d + 1) [.ref (n0 + 0), .int p0, .int p1, .int p2] K I L Q := by
  refine z_entry0 (by decide) (Nat.le_of_ble_eq_true rfl) ?_
  change Z n0 xX12_measure (d + 1) 0 0 0 [(0, .ref (n0 + 0)), (1, .int p0), (2, .int p1), (3, .int p2)] [] K I L (z_q0 K Q)
  refine z_aload_n 0 dX12_measure_0 rfl ?_
  refine z_iload_n 1 dX12_measure_1 rfl ?_
  refine z_callV0 (As := [.int p0]) (st := []) dX12_measure_2 hy_X12_bodyOf (co_0 hL).1 (co_0 hL).2 (by decide) wg_551 wg_553 wg_2 (Nat.le_refl _) (Nat.le_of_ble_eq_true rfl) (RM0.mono h ?_)
  clear h
  intro vv I1 L2 h
  obtain ⟨r3, rfl, h⟩ := h
  change Z n0 xX12_measure (d + 1) 0 0 5 [(0, .ref (n0 + 0)), (1, .int p0), (2, .int p1), (3, .int p2)] [zr n0 r3] K I1 L2 (z_q0 K Q)
  refine z_astoreO [1, 2, 3, 4, 0] [(0, .ref (n0 + 0)), (1, .int p0), (2, .int p1), (3, .int p2), (4, zr n0 r3)] dX12_measure_5 (by decide) (fun v hv => by subst hv; rfl) ?_
  refine z_aloadO 4 dX12_measure_7 rfl ?_
  refine z_ifnull 19 dX12_measure_9 (by decide) (fun g4 => ?_) (fun q5 g4 => ?_)
  · replace h := h.1 g4
    subst g4
    change Z n0 xX12_measure (d + 1) 0 0 19 [(0, .ref (n0 + 0)), (1, .int p0), (2, .int p1), (3, .int p2), (4, .null)] [] K I1 L2 (z_q0 K Q)
    refine z_aload_n 0 dX12_measure_19 rfl ?_
    refine z_iconst (-1) dX12_measure_20 (by decide) ?_
    refine z_callV0 (As := [.int (-1)]) (st := []) dX12_measure_21 hy_X12_refuseApart (co_0 hL).1 (co_0 hL).2 (by decide) wg_555 wg_557 wg_3 (Nat.le_refl _) (Nat.le_of_ble_eq_true rfl) (RM0.mono h ?_)
    clear h
    intro vv I6 L7 h
    obtain ⟨r8, rfl, h⟩ := h
    change Z n0 xX12_measure (d + 1) 0 0 24 [(0, .ref (n0 + 0)), (1, .int p0), (2, .int p1), (3, .int p2), (4, .null)] [.int r8] K I6 L7 (z_q0 K Q)
    exact z_iret dX12_measure_24 rfl ⟨rfl, h⟩
  · replace h := h.2 q5 g4
    subst g4
    change Z n0 xX12_measure (d + 1) 0 0 12 [(0, .ref (n0 + 0)), (1, .int p0), (2, .int p1), (3, .int p2), (4, .ref (n0 + q5))] [] K I1 L2 (z_q0 K Q)
    refine z_iload_n 2 dX12_measure_12 rfl ?_
    refine z_callS0 (As := [.int p1]) (st := []) dX12_measure_13 hy_X12_isMeasure wg_470 wg_471 (Nat.le_refl _) (Nat.le_of_ble_eq_true rfl) (RM0.mono h ?_)
    clear h
    intro vv I9 L10 h
    obtain ⟨r11, rfl, h⟩ := h
    change Z n0 xX12_measure (d + 1) 0 0 16 [(0, .ref (n0 + 0)), (1, .int p0), (2, .int p1), (3, .int p2), (4, .ref (n0 + q5))] [.int r11] K I9 L10 (z_q0 K Q)
    refine z_if_ne 25 dX12_measure_16 (by decide) (fun g12 => ?_) (fun g12 => ?_)
    · rw [if_neg g12] at h
      refine z_iload_n 3 dX12_measure_25 rfl ?_
      refine z_iconst (-1) dX12_measure_26 (by decide) ?_
      refine z_sipush 9999 dX12_measure_27 (by decide) ?_
      refine z_callS0 (As := [.int p2, .int (-1), .int 9999]) (st := []) dX12_measure_30 hy_X12_outside wg_476 wg_477 (Nat.le_refl _) (Nat.le_of_ble_eq_true rfl) (RM0.mono h ?_)
      clear h
      intro vv I13 L14 h
      obtain ⟨r15, rfl, h⟩ := h
      change Z n0 xX12_measure (d + 1) 0 0 33 [(0, .ref (n0 + 0)), (1, .int p0), (2, .int p1), (3, .int p2), (4, .ref (n0 + q5))] [.int r15] K I13 L14 (z_q0 K Q)
      refine z_istore [1, 2, 3, 4, 5, 0] [(0, .ref (n0 + 0)), (1, .int p0), (2, .int p1), (3, .int p2), (4, .ref (n0 + q5)), (5, .int r15)] dX12_measure_33 (by decide) rfl ?_
      refine z_iload 5 dX12_measure_35 rfl ?_
      refine z_if_eq 47 dX12_measure_37 (by decide) (fun g16 => ?_) (fun g16 => ?_)
      · rw [if_pos g16] at h
        refine z_aload 4 dX12_measure_47 rfl ?_
        obtain ⟨o17, o18, h⟩ := h
        obtain ⟨q19, q19e, h⟩ := h
        refine fg_12_129 (some q19) rfl dX12_measure_49 o17 o18 q19e ?_
        refine z_iload_n 2 dX12_measure_52 rfl ?_
        obtain ⟨n20, o21, o22, o23, h⟩ := h
        refine z_iald (I13 q19 p1.toNatClampNeg) dX12_measure_53 o21 o22 o23 rfl ?_
        refine z_istore [1, 2, 3, 4, 5, 6, 0] [(0, .ref (n0 + 0)), (1, .int p0), (2, .int p1), (3, .int p2), (4, .ref (n0 + q5)), (5, .int r15), (6, .int (I13 q19 p1.toNatClampNeg))] dX12_measure_54 (by decide) rfl ?_
        refine z_aload 4 dX12_measure_56 rfl ?_
        refine fg_12_129 (some q19) rfl dX12_measure_58 o17 o18 q19e ?_
        refine z_iload_n 2 dX12_measure_61 rfl ?_
        refine z_iload_n 3 dX12_measure_62 rfl ?_
        refine z_iast dX12_measure_63 o21 o22 o23 ?_
        refine z_iload 6 dX12_measure_64 rfl ?_
        exact z_iret dX12_measure_66 rfl ⟨rfl, h⟩
      · rw [if_neg g16] at h
        refine z_aload_n 0 dX12_measure_40 rfl ?_
        refine z_iload 5 dX12_measure_41 rfl ?_
        refine z_callV0 (As := [.int r15]) (st := []) dX12_measure_43 hy_X12_refuseApart (co_0 hL).1 (co_0 hL).2 (by decide) wg_555 wg_557 wg_3 (Nat.le_refl _) (Nat.le_of_ble_eq_true rfl) (RM0.mono h ?_)
        clear h
        intro vv I24 L25 h
        obtain ⟨r26, rfl, h⟩ := h
        change Z n0 xX12_measure (d + 1) 0 0 46 [(0, .ref (n0 + 0)), (1, .int p0), (2, .int p1), (3, .int p2), (4, .ref (n0 + q5)), (5, .int r15)] [.int r26] K I24 L25 (z_q0 K Q)
        exact z_iret dX12_measure_46 rfl ⟨rfl, h⟩
    · rw [if_pos g12] at h
      refine z_aload_n 0 dX12_measure_19 rfl ?_
      refine z_iconst (-1) dX12_measure_20 (by decide) ?_
      refine z_callV0 (As := [.int (-1)]) (st := []) dX12_measure_21 hy_X12_refuseApart (co_0 hL).1 (co_0 hL).2 (by decide) wg_555 wg_557 wg_3 (Nat.le_refl _) (Nat.le_of_ble_eq_true rfl) (RM0.mono h ?_)
      clear h
      intro vv I27 L28 h
      obtain ⟨r29, rfl, h⟩ := h
      change Z n0 xX12_measure (d + 1) 0 0 24 [(0, .ref (n0 + 0)), (1, .int p0), (2, .int p1), (3, .int p2), (4, .ref (n0 + q5))] [.int r29] K I27 L28 (z_q0 K Q)
      exact z_iret dX12_measure_24 rfl ⟨rfl, h⟩
theorem dX12_measured_0 : decode cX12_measured 0 = .ok (.aload_n 0, 1) := by decide +kernel
theorem dX12_measured_1 : decode cX12_measured 1 = .ok (.iload_n 1, 1) := by decide +kernel
theorem dX12_measured_2 : decode cX12_measured 2 = .ok (.invokevirtual 122, 3) := by decide +kernel
theorem dX12_measured_5 : decode cX12_measured 5 = .ok (.astore_n 3, 1) := by decide +kernel
theorem dX12_measured_6 : decode cX12_measured 6 = .ok (.aload_n 3, 1) := by decide +kernel
theorem dX12_measured_7 : decode cX12_measured 7 = .ok (.ifnull 10, 3) := by decide +kernel
theorem dX12_measured_10 : decode cX12_measured 10 = .ok (.iload_n 2, 1) := by decide +kernel
theorem dX12_measured_11 : decode cX12_measured 11 = .ok (.invokestatic 93, 3) := by decide +kernel
theorem dX12_measured_14 : decode cX12_measured 14 = .ok (.ifCond .ne 9, 3) := by decide +kernel
theorem dX12_measured_17 : decode cX12_measured 17 = .ok (.aload_n 0, 1) := by decide +kernel
theorem dX12_measured_18 : decode cX12_measured 18 = .ok (.iconst (-1), 1) := by decide +kernel
theorem dX12_measured_19 : decode cX12_measured 19 = .ok (.invokevirtual 85, 3) := by decide +kernel
theorem dX12_measured_22 : decode cX12_measured 22 = .ok (.ireturn, 1) := by decide +kernel
theorem dX12_measured_23 : decode cX12_measured 23 = .ok (.aload_n 0, 1) := by decide +kernel
theorem dX12_measured_24 : decode cX12_measured 24 = .ok (.aload_n 3, 1) := by decide +kernel
theorem dX12_measured_25 : decode cX12_measured 25 = .ok (.iload_n 2, 1) := by decide +kernel
theorem dX12_measured_26 : decode cX12_measured 26 = .ok (.invokevirtual 132, 3) := by decide +kernel
theorem dX12_measured_29 : decode cX12_measured 29 = .ok (.ireturn, 1) := by decide +kernel
set_option maxRecDepth 100000 in
set_option maxHeartbeats 4000000 in
theorem wp_X12_measured {n0 d : Nat} {K : z_K} {I : z_I} {L : z_L} {Q : z_q} {p0 : Int32} {p1 : Int32} (hL : CLay K) (h : RM0 n0 xX12_bodyOf d [.ref (n0 + 0), .int p0] K I L (fun vv I1 L2 => ∃ r3 : Option Nat, vv = some (zr n0 r3) ∧ ((r3 = none → RM0 n0 xX12_refuse d [.ref (n0 + 0), .int (-1)] K I1 L2 (fun vv I6 L7 => ∃ r8 : Int32, vv = some (.int r8) ∧ Q (some (.int r8)) I6 L7)) ∧ (∀ q5, r3 = some q5 → RM0 n0 xX12_isMeasure d [.int p1] K I1 L2 (fun vv I9 L10 => ∃ r11 : Int32, vv = some (.int r11) ∧ (if r11 = 0 then RM0 n0 xX12_refuse d [.ref (n0 + 0), .int (-1)] K I9 L10 (fun vv I16 L17 => ∃ r18 : Int32, vv = some (.int r18) ∧ Q (some (.int r18)) I16 L17) else RM0 n0 xX12_countsNow d [.ref (n0 + 0), .ref (n0 + q5), .int p1] K I9 L10 (fun vv I13 L14 => ∃ r15 : Int32, vv = some (.int r15) ∧ Q (some (.int r15)) I13 L14))))))) : RM0 n0 xX12_measured (d + 1) [.ref (n0 + 0), .int p0, .int p1] K I L Q := by
  refine z_entry0 (by decide) (Nat.le_of_ble_eq_true rfl) ?_
  change Z n0 xX12_measured (d + 1) 0 0 0 [(0, .ref (n0 + 0)), (1, .int p0), (2, .int p1)] [] K I L (z_q0 K Q)
  refine z_aload_n 0 dX12_measured_0 rfl ?_
  refine z_iload_n 1 dX12_measured_1 rfl ?_
  refine z_callV0 (As := [.int p0]) (st := []) dX12_measured_2 hy_X12_bodyOf (co_0 hL).1 (co_0 hL).2 (by decide) wg_551 wg_553 wg_2 (Nat.le_refl _) (Nat.le_of_ble_eq_true rfl) (RM0.mono h ?_)
  clear h
  intro vv I1 L2 h
  obtain ⟨r3, rfl, h⟩ := h
  change Z n0 xX12_measured (d + 1) 0 0 5 [(0, .ref (n0 + 0)), (1, .int p0), (2, .int p1)] [zr n0 r3] K I1 L2 (z_q0 K Q)
  refine z_astore_nO [1, 2, 3, 0] [(0, .ref (n0 + 0)), (1, .int p0), (2, .int p1), (3, zr n0 r3)] dX12_measured_5 (by decide) (fun v hv => by subst hv; rfl) ?_
  refine z_aload_nO 3 dX12_measured_6 rfl ?_
  refine z_ifnull 17 dX12_measured_7 (by decide) (fun g4 => ?_) (fun q5 g4 => ?_)
  · replace h := h.1 g4
    subst g4
    change Z n0 xX12_measured (d + 1) 0 0 17 [(0, .ref (n0 + 0)), (1, .int p0), (2, .int p1), (3, .null)] [] K I1 L2 (z_q0 K Q)
    refine z_aload_n 0 dX12_measured_17 rfl ?_
    refine z_iconst (-1) dX12_measured_18 (by decide) ?_
    refine z_callV0 (As := [.int (-1)]) (st := []) dX12_measured_19 hy_X12_refuse (co_0 hL).1 (co_0 hL).2 (by decide) wg_462 wg_464 wg_0 (Nat.le_refl _) (Nat.le_of_ble_eq_true rfl) (RM0.mono h ?_)
    clear h
    intro vv I6 L7 h
    obtain ⟨r8, rfl, h⟩ := h
    change Z n0 xX12_measured (d + 1) 0 0 22 [(0, .ref (n0 + 0)), (1, .int p0), (2, .int p1), (3, .null)] [.int r8] K I6 L7 (z_q0 K Q)
    exact z_iret dX12_measured_22 rfl ⟨rfl, h⟩
  · replace h := h.2 q5 g4
    subst g4
    change Z n0 xX12_measured (d + 1) 0 0 10 [(0, .ref (n0 + 0)), (1, .int p0), (2, .int p1), (3, .ref (n0 + q5))] [] K I1 L2 (z_q0 K Q)
    refine z_iload_n 2 dX12_measured_10 rfl ?_
    refine z_callS0 (As := [.int p1]) (st := []) dX12_measured_11 hy_X12_isMeasure wg_470 wg_471 (Nat.le_refl _) (Nat.le_of_ble_eq_true rfl) (RM0.mono h ?_)
    clear h
    intro vv I9 L10 h
    obtain ⟨r11, rfl, h⟩ := h
    change Z n0 xX12_measured (d + 1) 0 0 14 [(0, .ref (n0 + 0)), (1, .int p0), (2, .int p1), (3, .ref (n0 + q5))] [.int r11] K I9 L10 (z_q0 K Q)
    refine z_if_ne 23 dX12_measured_14 (by decide) (fun g12 => ?_) (fun g12 => ?_)
    · rw [if_neg g12] at h
      refine z_aload_n 0 dX12_measured_23 rfl ?_
      refine z_aload_n 3 dX12_measured_24 rfl ?_
      refine z_iload_n 2 dX12_measured_25 rfl ?_
      refine z_callV0 (As := [.ref (n0 + q5), .int p1]) (st := []) dX12_measured_26 hy_X12_countsNow (co_0 hL).1 (co_0 hL).2 (by decide) wg_564 wg_566 wg_4 (Nat.le_refl _) (Nat.le_of_ble_eq_true rfl) (RM0.mono h ?_)
      clear h
      intro vv I13 L14 h
      obtain ⟨r15, rfl, h⟩ := h
      change Z n0 xX12_measured (d + 1) 0 0 29 [(0, .ref (n0 + 0)), (1, .int p0), (2, .int p1), (3, .ref (n0 + q5))] [.int r15] K I13 L14 (z_q0 K Q)
      exact z_iret dX12_measured_29 rfl ⟨rfl, h⟩
    · rw [if_pos g12] at h
      refine z_aload_n 0 dX12_measured_17 rfl ?_
      refine z_iconst (-1) dX12_measured_18 (by decide) ?_
      refine z_callV0 (As := [.int (-1)]) (st := []) dX12_measured_19 hy_X12_refuse (co_0 hL).1 (co_0 hL).2 (by decide) wg_462 wg_464 wg_0 (Nat.le_refl _) (Nat.le_of_ble_eq_true rfl) (RM0.mono h ?_)
      clear h
      intro vv I16 L17 h
      obtain ⟨r18, rfl, h⟩ := h
      change Z n0 xX12_measured (d + 1) 0 0 22 [(0, .ref (n0 + 0)), (1, .int p0), (2, .int p1), (3, .ref (n0 + q5))] [.int r18] K I16 L17 (z_q0 K Q)
      exact z_iret dX12_measured_22 rfl ⟨rfl, h⟩
theorem dX12_piece_0 : decode cX12_piece 0 = .ok (.iload_n 1, 1) := by decide +kernel
theorem dX12_piece_1 : decode cX12_piece 1 = .ok (.ifCond .lt 8, 3) := by decide +kernel
theorem dX12_piece_4 : decode cX12_piece 4 = .ok (.iload_n 1, 1) := by decide +kernel
theorem dX12_piece_5 : decode cX12_piece 5 = .ok (.iconst 3, 1) := by decide +kernel
theorem dX12_piece_6 : decode cX12_piece 6 = .ok (.if_icmp .le 10, 3) := by decide +kernel
theorem dX12_piece_9 : decode cX12_piece 9 = .ok (.aload_n 0, 1) := by decide +kernel
theorem dX12_piece_10 : decode cX12_piece 10 = .ok (.bipush (-2), 2) := by decide +kernel
theorem dX12_piece_12 : decode cX12_piece 12 = .ok (.invokevirtual 85, 3) := by decide +kernel
theorem dX12_piece_15 : decode cX12_piece 15 = .ok (.ireturn, 1) := by decide +kernel
theorem dX12_piece_16 : decode cX12_piece 16 = .ok (.aload_n 0, 1) := by decide +kernel
theorem dX12_piece_17 : decode cX12_piece 17 = .ok (.iload_n 3, 1) := by decide +kernel
theorem dX12_piece_18 : decode cX12_piece 18 = .ok (.invokevirtual 136, 3) := by decide +kernel
theorem dX12_piece_21 : decode cX12_piece 21 = .ok (.astore 4, 2) := by decide +kernel
theorem dX12_piece_23 : decode cX12_piece 23 = .ok (.iload_n 1, 1) := by decide +kernel
theorem dX12_piece_24 : decode cX12_piece 24 = .ok (.iconst 3, 1) := by decide +kernel
theorem dX12_piece_25 : decode cX12_piece 25 = .ok (.if_icmp .ne 22, 3) := by decide +kernel
theorem dX12_piece_28 : decode cX12_piece 28 = .ok (.aload 4, 2) := by decide +kernel
theorem dX12_piece_30 : decode cX12_piece 30 = .ok (.ifnull 11, 3) := by decide +kernel
theorem dX12_piece_33 : decode cX12_piece 33 = .ok (.aload 4, 2) := by decide +kernel
theorem dX12_piece_35 : decode cX12_piece 35 = .ok (.invokevirtual 140, 3) := by decide +kernel
theorem dX12_piece_38 : decode cX12_piece 38 = .ok (.ifCond .ne 9, 3) := by decide +kernel
theorem dX12_piece_41 : decode cX12_piece 41 = .ok (.aload_n 0, 1) := by decide +kernel
theorem dX12_piece_42 : decode cX12_piece 42 = .ok (.iconst (-1), 1) := by decide +kernel
theorem dX12_piece_43 : decode cX12_piece 43 = .ok (.invokevirtual 85, 3) := by decide +kernel
theorem dX12_piece_46 : decode cX12_piece 46 = .ok (.ireturn, 1) := by decide +kernel
theorem dX12_piece_47 : decode cX12_piece 47 = .ok (.iload_n 1, 1) := by decide +kernel
theorem dX12_piece_48 : decode cX12_piece 48 = .ok (.iconst 3, 1) := by decide +kernel
theorem dX12_piece_49 : decode cX12_piece 49 = .ok (.if_icmp .eq 15, 3) := by decide +kernel
theorem dX12_piece_52 : decode cX12_piece 52 = .ok (.iload_n 3, 1) := by decide +kernel
theorem dX12_piece_53 : decode cX12_piece 53 = .ok (.iconst (-1), 1) := by decide +kernel
theorem dX12_piece_54 : decode cX12_piece 54 = .ok (.if_icmp .eq 10, 3) := by decide +kernel
theorem dX12_piece_57 : decode cX12_piece 57 = .ok (.aload_n 0, 1) := by decide +kernel
theorem dX12_piece_58 : decode cX12_piece 58 = .ok (.bipush (-3), 2) := by decide +kernel
theorem dX12_piece_60 : decode cX12_piece 60 = .ok (.invokevirtual 85, 3) := by decide +kernel
theorem dX12_piece_63 : decode cX12_piece 63 = .ok (.ireturn, 1) := by decide +kernel
theorem dX12_piece_64 : decode cX12_piece 64 = .ok (.iload_n 2, 1) := by decide +kernel
theorem dX12_piece_65 : decode cX12_piece 65 = .ok (.iconst 3, 1) := by decide +kernel
theorem dX12_piece_66 : decode cX12_piece 66 = .ok (.bipush 10, 2) := by decide +kernel
theorem dX12_piece_68 : decode cX12_piece 68 = .ok (.invokestatic 100, 3) := by decide +kernel
theorem dX12_piece_71 : decode cX12_piece 71 = .ok (.istore 5, 2) := by decide +kernel
theorem dX12_piece_73 : decode cX12_piece 73 = .ok (.iload 5, 2) := by decide +kernel
theorem dX12_piece_75 : decode cX12_piece 75 = .ok (.ifCond .eq 10, 3) := by decide +kernel
theorem dX12_piece_78 : decode cX12_piece 78 = .ok (.aload_n 0, 1) := by decide +kernel
theorem dX12_piece_79 : decode cX12_piece 79 = .ok (.iload 5, 2) := by decide +kernel
theorem dX12_piece_81 : decode cX12_piece 81 = .ok (.invokevirtual 85, 3) := by decide +kernel
theorem dX12_piece_84 : decode cX12_piece 84 = .ok (.ireturn, 1) := by decide +kernel
theorem dX12_piece_85 : decode cX12_piece 85 = .ok (.aload_n 0, 1) := by decide +kernel
theorem dX12_piece_86 : decode cX12_piece 86 = .ok (.getfield 144, 3) := by decide +kernel
theorem dX12_piece_89 : decode cX12_piece 89 = .ok (.bipush 16, 2) := by decide +kernel
theorem dX12_piece_91 : decode cX12_piece 91 = .ok (.if_icmp .lt 10, 3) := by decide +kernel
theorem dX12_piece_94 : decode cX12_piece 94 = .ok (.aload_n 0, 1) := by decide +kernel
theorem dX12_piece_95 : decode cX12_piece 95 = .ok (.bipush (-6), 2) := by decide +kernel
theorem dX12_piece_97 : decode cX12_piece 97 = .ok (.invokevirtual 85, 3) := by decide +kernel
theorem dX12_piece_100 : decode cX12_piece 100 = .ok (.ireturn, 1) := by decide +kernel
theorem dX12_piece_101 : decode cX12_piece 101 = .ok (.aload_n 0, 1) := by decide +kernel
theorem dX12_piece_102 : decode cX12_piece 102 = .ok (.getfield 27, 3) := by decide +kernel
theorem dX12_piece_105 : decode cX12_piece 105 = .ok (.aload_n 0, 1) := by decide +kernel
theorem dX12_piece_106 : decode cX12_piece 106 = .ok (.getfield 144, 3) := by decide +kernel
theorem dX12_piece_109 : decode cX12_piece 109 = .ok (.new 25, 3) := by decide +kernel
theorem dX12_piece_112 : decode cX12_piece 112 = .ok (.dup, 1) := by decide +kernel
theorem dX12_piece_113 : decode cX12_piece 113 = .ok (.aload_n 0, 1) := by decide +kernel
theorem dX12_piece_114 : decode cX12_piece 114 = .ok (.getfield 144, 3) := by decide +kernel
theorem dX12_piece_117 : decode cX12_piece 117 = .ok (.iload_n 1, 1) := by decide +kernel
theorem dX12_piece_118 : decode cX12_piece 118 = .ok (.iload_n 2, 1) := by decide +kernel
theorem dX12_piece_119 : decode cX12_piece 119 = .ok (.aload 4, 2) := by decide +kernel
theorem dX12_piece_121 : decode cX12_piece 121 = .ok (.invokespecial 147, 3) := by decide +kernel
theorem dX12_piece_124 : decode cX12_piece 124 = .ok (.aastore, 1) := by decide +kernel
theorem dX12_piece_125 : decode cX12_piece 125 = .ok (.aload_n 0, 1) := by decide +kernel
theorem dX12_piece_126 : decode cX12_piece 126 = .ok (.dup, 1) := by decide +kernel
theorem dX12_piece_127 : decode cX12_piece 127 = .ok (.getfield 144, 3) := by decide +kernel
theorem dX12_piece_130 : decode cX12_piece 130 = .ok (.dup_x1, 1) := by decide +kernel
theorem dX12_piece_131 : decode cX12_piece 131 = .ok (.iconst 1, 1) := by decide +kernel
theorem dX12_piece_132 : decode cX12_piece 132 = .ok (.iadd, 1) := by decide +kernel
theorem dX12_piece_133 : decode cX12_piece 133 = .ok (.putfield 144, 3) := by decide +kernel
theorem dX12_piece_136 : decode cX12_piece 136 = .ok (.ireturn, 1) := by decide +kernel
set_option maxRecDepth 100000 in
set_option maxHeartbeats 4000000 in
theorem wp_X12_piece {n0 d : Nat} {K : z_K} {I : z_I} {L : z_L} {Q : z_R} {p0 : Int32} {p1 : Int32} {p2 : Int32} (hL : CLay K) (h : (if p0 < 0 then RM0 n0 xX12_refuse d [.ref (n0 + 0), .int (-2)] K I L (fun vv I2 L3 => ∃ r4 : Int32, vv = some (.int r4) ∧ Q (some (.int r4)) K I2 L3) else (if 3 < p0 then RM0 n0 xX12_refuse d [.ref (n0 + 0), .int (-2)] K I L (fun vv I126 L127 => ∃ r128 : Int32, vv = some (.int r128) ∧ Q (some (.int r128)) K I126 L127) else RM0 n0 xX12_pieceOf d [.ref (n0 + 0), .int p2] K I L (fun vv I6 L7 => ∃ r8 : Option Nat, vv = some (zr n0 r8) ∧ (if p0 = 3 then ((r8 = none → RM0 n0 xX12_refuse d [.ref (n0 + 0), .int (-1)] K I6 L7 (fun vv I63 L64 => ∃ r65 : Int32, vv = some (.int r65) ∧ Q (some (.int r65)) K I63 L64)) ∧ (∀ q62, r8 = some q62 → q62 < K.1 ∧ (K.2.1 q62).1 = 5 ∧ RM0 n0 xX5_lends d [.ref (n0 + q62)] K I6 L7 (fun vv I68 L69 => ∃ r70 : Int32, vv = some (.int r70) ∧ (if r70 = 0 then RM0 n0 xX12_refuse d [.ref (n0 + 0), .int (-1)] K I68 L69 (fun vv I123 L124 => ∃ r125 : Int32, vv = some (.int r125) ∧ Q (some (.int r125)) K I123 L124) else (if p0 = 3 then RM0 n0 xX12_outside d [.int p1, .int 3, .int 10] K I68 L69 (fun vv I73 L74 => ∃ r75 : Int32, vv = some (.int r75) ∧ (if r75 = 0 then (if ((I73 0 8) : Int32) < 16 then (∀ b81, K.1 = b81 → ∀ K78, K78 = zN K 5 0 → ∀ I79, I79 = zI0 I73 b81 → ∀ L80, L80 = zL0 L74 b81 → CLay K78 ∧ RM n0 xX5_init d 6 60 [.ref (n0 + b81), .int (I79 0 8), .int p0, .int p1, .ref (n0 + q62)] K78 I79 L80 (fun vv K85 I83 L84 => vv = none ∧ CLay K85 ∧ vp_in (I73 0 8) 16 ∧ b81 < K85.1 ∧ (K85.2.1 b81).1 = 5 ∧ Q (some (.int (I83 0 8))) (zR K85 4 ((I73 0 8).toNatClampNeg) (some b81)) (zI I83 0 8 ((I83 0 8) + 1)) L84)) else RM0 n0 xX12_refuse d [.ref (n0 + 0), .int (-6)] K I73 L74 (fun vv I90 L91 => ∃ r92 : Int32, vv = some (.int r92) ∧ Q (some (.int r92)) K I90 L91)) else RM0 n0 xX12_refuse d [.ref (n0 + 0), .int r75] K I73 L74 (fun vv I93 L94 => ∃ r95 : Int32, vv = some (.int r95) ∧ Q (some (.int r95)) K I93 L94))) else (if p2 = (-1) then RM0 n0 xX12_outside d [.int p1, .int 3, .int 10] K I68 L69 (fun vv I97 L98 => ∃ r99 : Int32, vv = some (.int r99) ∧ (if r99 = 0 then (if ((I97 0 8) : Int32) < 16 then (∀ b105, K.1 = b105 → ∀ K102, K102 = zN K 5 0 → ∀ I103, I103 = zI0 I97 b105 → ∀ L104, L104 = zL0 L98 b105 → CLay K102 ∧ RM n0 xX5_init d 6 60 [.ref (n0 + b105), .int (I103 0 8), .int p0, .int p1, .ref (n0 + q62)] K102 I103 L104 (fun vv K109 I107 L108 => vv = none ∧ CLay K109 ∧ vp_in (I97 0 8) 16 ∧ b105 < K109.1 ∧ (K109.2.1 b105).1 = 5 ∧ Q (some (.int (I107 0 8))) (zR K109 4 ((I97 0 8).toNatClampNeg) (some b105)) (zI I107 0 8 ((I107 0 8) + 1)) L108)) else RM0 n0 xX12_refuse d [.ref (n0 + 0), .int (-6)] K I97 L98 (fun vv I114 L115 => ∃ r116 : Int32, vv = some (.int r116) ∧ Q (some (.int r116)) K I114 L115)) else RM0 n0 xX12_refuse d [.ref (n0 + 0), .int r99] K I97 L98 (fun vv I117 L118 => ∃ r119 : Int32, vv = some (.int r119) ∧ Q (some (.int r119)) K I117 L118))) else RM0 n0 xX12_refuse d [.ref (n0 + 0), .int (-3)] K I68 L69 (fun vv I120 L121 => ∃ r122 : Int32, vv = some (.int r122) ∧ Q (some (.int r122)) K I120 L121))))))) else (if p0 = 3 then RM0 n0 xX12_outside d [.int p1, .int 3, .int 10] K I6 L7 (fun vv I11 L12 => ∃ r13 : Int32, vv = some (.int r13) ∧ (if r13 = 0 then (if ((I11 0 8) : Int32) < 16 then (∀ b19, K.1 = b19 → ∀ K16, K16 = zN K 5 0 → ∀ I17, I17 = zI0 I11 b19 → ∀ L18, L18 = zL0 L12 b19 → CLay K16 ∧ RM n0 xX5_init d 6 60 [.ref (n0 + b19), .int (I17 0 8), .int p0, .int p1, zr n0 r8] K16 I17 L18 (fun vv K23 I21 L22 => vv = none ∧ CLay K23 ∧ vp_in (I11 0 8) 16 ∧ b19 < K23.1 ∧ (K23.2.1 b19).1 = 5 ∧ Q (some (.int (I21 0 8))) (zR K23 4 ((I11 0 8).toNatClampNeg) (some b19)) (zI I21 0 8 ((I21 0 8) + 1)) L22)) else RM0 n0 xX12_refuse d [.ref (n0 + 0), .int (-6)] K I11 L12 (fun vv I28 L29 => ∃ r30 : Int32, vv = some (.int r30) ∧ Q (some (.int r30)) K I28 L29)) else RM0 n0 xX12_refuse d [.ref (n0 + 0), .int r13] K I11 L12 (fun vv I31 L32 => ∃ r33 : Int32, vv = some (.int r33) ∧ Q (some (.int r33)) K I31 L32))) else (if p2 = (-1) then RM0 n0 xX12_outside d [.int p1, .int 3, .int 10] K I6 L7 (fun vv I35 L36 => ∃ r37 : Int32, vv = some (.int r37) ∧ (if r37 = 0 then (if ((I35 0 8) : Int32) < 16 then (∀ b43, K.1 = b43 → ∀ K40, K40 = zN K 5 0 → ∀ I41, I41 = zI0 I35 b43 → ∀ L42, L42 = zL0 L36 b43 → CLay K40 ∧ RM n0 xX5_init d 6 60 [.ref (n0 + b43), .int (I41 0 8), .int p0, .int p1, zr n0 r8] K40 I41 L42 (fun vv K47 I45 L46 => vv = none ∧ CLay K47 ∧ vp_in (I35 0 8) 16 ∧ b43 < K47.1 ∧ (K47.2.1 b43).1 = 5 ∧ Q (some (.int (I45 0 8))) (zR K47 4 ((I35 0 8).toNatClampNeg) (some b43)) (zI I45 0 8 ((I45 0 8) + 1)) L46)) else RM0 n0 xX12_refuse d [.ref (n0 + 0), .int (-6)] K I35 L36 (fun vv I52 L53 => ∃ r54 : Int32, vv = some (.int r54) ∧ Q (some (.int r54)) K I52 L53)) else RM0 n0 xX12_refuse d [.ref (n0 + 0), .int r37] K I35 L36 (fun vv I55 L56 => ∃ r57 : Int32, vv = some (.int r57) ∧ Q (some (.int r57)) K I55 L56))) else RM0 n0 xX12_refuse d [.ref (n0 + 0), .int (-3)] K I6 L7 (fun vv I58 L59 => ∃ r60 : Int32, vv = some (.int r60) ∧ Q (some (.int r60)) K I58 L59)))))))) : RM n0 xX12_piece (d + 1) 7 71 [.ref (n0 + 0), .int p0, .int p1, .int p2] K I L Q := by
  refine z_entry (by decide) (Nat.le_of_ble_eq_true rfl) ?_
  change Z n0 xX12_piece (d + 1) 7 71 0 [(0, .ref (n0 + 0)), (1, .int p0), (2, .int p1), (3, .int p2)] [] K I L Q
  refine z_iload_n 1 dX12_piece_0 rfl ?_
  refine z_if_lt 9 dX12_piece_1 (by decide) (fun g1 => ?_) (fun g1 => ?_)
  · rw [if_pos g1] at h
    refine z_aload_n 0 dX12_piece_9 rfl ?_
    refine z_bipush (-2) dX12_piece_10 (by decide) ?_
    refine z_callV0 (As := [.int (-2)]) (st := []) dX12_piece_12 hy_X12_refuse (co_0 hL).1 (co_0 hL).2 (by decide) wg_462 wg_464 wg_0 (Nat.le_refl _) (Nat.le_of_ble_eq_true rfl) (RM0.mono h ?_)
    clear h
    intro vv I2 L3 h
    obtain ⟨r4, rfl, h⟩ := h
    change Z n0 xX12_piece (d + 1) 7 71 15 [(0, .ref (n0 + 0)), (1, .int p0), (2, .int p1), (3, .int p2)] [.int r4] K I2 L3 Q
    exact z_iret dX12_piece_15 rfl h
  · rw [if_neg g1] at h
    refine z_iload_n 1 dX12_piece_4 rfl ?_
    refine z_iconst 3 dX12_piece_5 (by decide) ?_
    refine z_icmp_le 16 dX12_piece_6 (by decide) (fun g5 => ?_) (fun g5 => ?_)
    · rw [if_neg g5] at h
      refine z_aload_n 0 dX12_piece_16 rfl ?_
      refine z_iload_n 3 dX12_piece_17 rfl ?_
      refine z_callV0 (As := [.int p2]) (st := []) dX12_piece_18 hy_X12_pieceOf (co_0 hL).1 (co_0 hL).2 (by decide) wg_572 wg_574 wg_5 (Nat.le_refl _) (Nat.le_of_ble_eq_true rfl) (RM0.mono h ?_)
      clear h
      intro vv I6 L7 h
      obtain ⟨r8, rfl, h⟩ := h
      change Z n0 xX12_piece (d + 1) 7 71 21 [(0, .ref (n0 + 0)), (1, .int p0), (2, .int p1), (3, .int p2)] [zr n0 r8] K I6 L7 Q
      refine z_astoreO [1, 2, 3, 4, 0] [(0, .ref (n0 + 0)), (1, .int p0), (2, .int p1), (3, .int p2), (4, zr n0 r8)] dX12_piece_21 (by decide) (fun v hv => by subst hv; rfl) ?_
      refine z_iload_n 1 dX12_piece_23 rfl ?_
      refine z_iconst 3 dX12_piece_24 (by decide) ?_
      refine z_icmp_ne 47 dX12_piece_25 (by decide) (fun g9 => ?_) (fun g9 => ?_)
      · rw [if_neg g9] at h
        refine z_iload_n 1 dX12_piece_47 rfl ?_
        refine z_iconst 3 dX12_piece_48 (by decide) ?_
        refine z_icmp_eq 64 dX12_piece_49 (by decide) (fun g10 => ?_) (fun g10 => ?_)
        · rw [if_pos g10] at h
          refine z_iload_n 2 dX12_piece_64 rfl ?_
          refine z_iconst 3 dX12_piece_65 (by decide) ?_
          refine z_bipush 10 dX12_piece_66 (by decide) ?_
          refine z_callS0 (As := [.int p1, .int 3, .int 10]) (st := []) dX12_piece_68 hy_X12_outside wg_476 wg_477 (Nat.le_refl _) (Nat.le_of_ble_eq_true rfl) (RM0.mono h ?_)
          clear h
          intro vv I11 L12 h
          obtain ⟨r13, rfl, h⟩ := h
          change Z n0 xX12_piece (d + 1) 7 71 71 [(0, .ref (n0 + 0)), (1, .int p0), (2, .int p1), (3, .int p2), (4, zr n0 r8)] [.int r13] K I11 L12 Q
          refine z_istore [1, 2, 3, 4, 5, 0] [(0, .ref (n0 + 0)), (1, .int p0), (2, .int p1), (3, .int p2), (4, zr n0 r8), (5, .int r13)] dX12_piece_71 (by decide) (by cases r8 <;> rfl) ?_
          refine z_iload 5 dX12_piece_73 rfl ?_
          refine z_if_eq 85 dX12_piece_75 (by decide) (fun g14 => ?_) (fun g14 => ?_)
          · rw [if_pos g14] at h
            refine z_aload_n 0 dX12_piece_85 rfl ?_
            refine fg_12_144 (I11 0 8) rfl dX12_piece_86 (co_0 hL).1 (co_0 hL).2 rfl ?_
            refine z_bipush 16 dX12_piece_89 (by decide) ?_
            refine z_icmp_lt 101 dX12_piece_91 (by decide) (fun g15 => ?_) (fun g15 => ?_)
            · rw [if_pos g15] at h
              refine z_aload_n 0 dX12_piece_101 rfl ?_
              refine fg_12_27 (some 4) rfl dX12_piece_102 (co_0 hL).1 (co_0 hL).2 (ca_4 hL).1 ?_
              refine z_aload_n 0 dX12_piece_105 rfl ?_
              refine fg_12_144 (I11 0 8) rfl dX12_piece_106 (co_0 hL).1 (co_0 hL).2 rfl ?_
              refine z_new (rc := 6) (rs := 60) (c := 5) dX12_piece_109 (by decide) wg_136 wg_580 wg_116 ?_
              obtain ⟨b19, b19e⟩ : ∃ b, K.1 = b := ⟨_, rfl⟩
              obtain ⟨K16, K16e⟩ : ∃ k, k = zN K 5 0 := ⟨_, rfl⟩
              obtain ⟨I17, I17e⟩ : ∃ k, k = zI0 I11 b19 := ⟨_, rfl⟩
              obtain ⟨L18, L18e⟩ : ∃ k, k = zL0 L12 b19 := ⟨_, rfl⟩
              rw [b19e, ← K16e, ← I17e, ← L18e]
              replace h := h b19 b19e K16 K16e I17 I17e L18 L18e
              obtain ⟨hL20, h⟩ := h
              change Z n0 xX12_piece (d + 1) 6 60 112 [(0, .ref (n0 + 0)), (1, .int p0), (2, .int p1), (3, .int p2), (4, zr n0 r8), (5, .int r13)] [.ref (n0 + b19), .int (I11 0 8), .ref (n0 + 4)] K16 I17 L18 Q
              refine z_dup dX12_piece_112 rfl ?_
              refine z_aload_n 0 dX12_piece_113 rfl ?_
              refine fg_12_144 (I17 0 8) rfl dX12_piece_114 (co_0 hL20).1 (co_0 hL20).2 rfl ?_
              refine z_iload_n 1 dX12_piece_117 rfl ?_
              refine z_iload_n 2 dX12_piece_118 rfl ?_
              refine z_aloadO 4 dX12_piece_119 rfl ?_
              refine z_callI (rc := 0) (rs := 0) (mc1 := 6) (ms1 := 60) (As := [.int (I17 0 8), .int p0, .int p1, zr n0 r8]) (st := [.ref (n0 + b19), .int (I11 0 8), .ref (n0 + 4)]) dX12_piece_121 hy_X5_init rfl rfl wg_581 wg_582 (Nat.le_refl _) (Nat.le_of_ble_eq_true rfl) (RM.mono h ?_)
              clear h
              intro vv K23 I21 L22 h
              obtain ⟨rfl, h⟩ := h
              obtain ⟨hL24, h⟩ := h
              change Z n0 xX12_piece (d + 1) 0 0 124 [(0, .ref (n0 + 0)), (1, .int p0), (2, .int p1), (3, .int p2), (4, zr n0 r8), (5, .int r13)] [.ref (n0 + b19), .int (I11 0 8), .ref (n0 + 4)] K23 I21 L22 Q
              obtain ⟨o25, o26, o27, h⟩ := h
              refine z_aast (t := 35) dX12_piece_124 (ca_4 hL24).2.1 (ca_4 hL24).2.2 (by unfold z_rt; decide) o25 o26 o27 ?_
              refine z_aload_n 0 dX12_piece_125 rfl ?_
              refine z_dup dX12_piece_126 rfl ?_
              refine fg_12_144 (I21 0 8) rfl dX12_piece_127 (co_0 hL24).1 (co_0 hL24).2 rfl ?_
              refine z_dup_x1 dX12_piece_130 rfl rfl ?_
              refine z_iconst 1 dX12_piece_131 (by decide) ?_
              refine z_iadd dX12_piece_132 ?_
              refine fp_12_144 rfl dX12_piece_133 (co_0 hL24).1 (co_0 hL24).2 ?_
              exact z_iret dX12_piece_136 rfl h
            · rw [if_neg g15] at h
              refine z_aload_n 0 dX12_piece_94 rfl ?_
              refine z_bipush (-6) dX12_piece_95 (by decide) ?_
              refine z_callV0 (As := [.int (-6)]) (st := []) dX12_piece_97 hy_X12_refuse (co_0 hL).1 (co_0 hL).2 (by decide) wg_462 wg_464 wg_0 (Nat.le_refl _) (Nat.le_of_ble_eq_true rfl) (RM0.mono h ?_)
              clear h
              intro vv I28 L29 h
              obtain ⟨r30, rfl, h⟩ := h
              change Z n0 xX12_piece (d + 1) 7 71 100 [(0, .ref (n0 + 0)), (1, .int p0), (2, .int p1), (3, .int p2), (4, zr n0 r8), (5, .int r13)] [.int r30] K I28 L29 Q
              exact z_iret dX12_piece_100 rfl h
          · rw [if_neg g14] at h
            refine z_aload_n 0 dX12_piece_78 rfl ?_
            refine z_iload 5 dX12_piece_79 rfl ?_
            refine z_callV0 (As := [.int r13]) (st := []) dX12_piece_81 hy_X12_refuse (co_0 hL).1 (co_0 hL).2 (by decide) wg_462 wg_464 wg_0 (Nat.le_refl _) (Nat.le_of_ble_eq_true rfl) (RM0.mono h ?_)
            clear h
            intro vv I31 L32 h
            obtain ⟨r33, rfl, h⟩ := h
            change Z n0 xX12_piece (d + 1) 7 71 84 [(0, .ref (n0 + 0)), (1, .int p0), (2, .int p1), (3, .int p2), (4, zr n0 r8), (5, .int r13)] [.int r33] K I31 L32 Q
            exact z_iret dX12_piece_84 rfl h
        · rw [if_neg g10] at h
          refine z_iload_n 3 dX12_piece_52 rfl ?_
          refine z_iconst (-1) dX12_piece_53 (by decide) ?_
          refine z_icmp_eq 64 dX12_piece_54 (by decide) (fun g34 => ?_) (fun g34 => ?_)
          · rw [if_pos g34] at h
            refine z_iload_n 2 dX12_piece_64 rfl ?_
            refine z_iconst 3 dX12_piece_65 (by decide) ?_
            refine z_bipush 10 dX12_piece_66 (by decide) ?_
            refine z_callS0 (As := [.int p1, .int 3, .int 10]) (st := []) dX12_piece_68 hy_X12_outside wg_476 wg_477 (Nat.le_refl _) (Nat.le_of_ble_eq_true rfl) (RM0.mono h ?_)
            clear h
            intro vv I35 L36 h
            obtain ⟨r37, rfl, h⟩ := h
            change Z n0 xX12_piece (d + 1) 7 71 71 [(0, .ref (n0 + 0)), (1, .int p0), (2, .int p1), (3, .int p2), (4, zr n0 r8)] [.int r37] K I35 L36 Q
            refine z_istore [1, 2, 3, 4, 5, 0] [(0, .ref (n0 + 0)), (1, .int p0), (2, .int p1), (3, .int p2), (4, zr n0 r8), (5, .int r37)] dX12_piece_71 (by decide) (by cases r8 <;> rfl) ?_
            refine z_iload 5 dX12_piece_73 rfl ?_
            refine z_if_eq 85 dX12_piece_75 (by decide) (fun g38 => ?_) (fun g38 => ?_)
            · rw [if_pos g38] at h
              refine z_aload_n 0 dX12_piece_85 rfl ?_
              refine fg_12_144 (I35 0 8) rfl dX12_piece_86 (co_0 hL).1 (co_0 hL).2 rfl ?_
              refine z_bipush 16 dX12_piece_89 (by decide) ?_
              refine z_icmp_lt 101 dX12_piece_91 (by decide) (fun g39 => ?_) (fun g39 => ?_)
              · rw [if_pos g39] at h
                refine z_aload_n 0 dX12_piece_101 rfl ?_
                refine fg_12_27 (some 4) rfl dX12_piece_102 (co_0 hL).1 (co_0 hL).2 (ca_4 hL).1 ?_
                refine z_aload_n 0 dX12_piece_105 rfl ?_
                refine fg_12_144 (I35 0 8) rfl dX12_piece_106 (co_0 hL).1 (co_0 hL).2 rfl ?_
                refine z_new (rc := 6) (rs := 60) (c := 5) dX12_piece_109 (by decide) wg_136 wg_580 wg_116 ?_
                obtain ⟨b43, b43e⟩ : ∃ b, K.1 = b := ⟨_, rfl⟩
                obtain ⟨K40, K40e⟩ : ∃ k, k = zN K 5 0 := ⟨_, rfl⟩
                obtain ⟨I41, I41e⟩ : ∃ k, k = zI0 I35 b43 := ⟨_, rfl⟩
                obtain ⟨L42, L42e⟩ : ∃ k, k = zL0 L36 b43 := ⟨_, rfl⟩
                rw [b43e, ← K40e, ← I41e, ← L42e]
                replace h := h b43 b43e K40 K40e I41 I41e L42 L42e
                obtain ⟨hL44, h⟩ := h
                change Z n0 xX12_piece (d + 1) 6 60 112 [(0, .ref (n0 + 0)), (1, .int p0), (2, .int p1), (3, .int p2), (4, zr n0 r8), (5, .int r37)] [.ref (n0 + b43), .int (I35 0 8), .ref (n0 + 4)] K40 I41 L42 Q
                refine z_dup dX12_piece_112 rfl ?_
                refine z_aload_n 0 dX12_piece_113 rfl ?_
                refine fg_12_144 (I41 0 8) rfl dX12_piece_114 (co_0 hL44).1 (co_0 hL44).2 rfl ?_
                refine z_iload_n 1 dX12_piece_117 rfl ?_
                refine z_iload_n 2 dX12_piece_118 rfl ?_
                refine z_aloadO 4 dX12_piece_119 rfl ?_
                refine z_callI (rc := 0) (rs := 0) (mc1 := 6) (ms1 := 60) (As := [.int (I41 0 8), .int p0, .int p1, zr n0 r8]) (st := [.ref (n0 + b43), .int (I35 0 8), .ref (n0 + 4)]) dX12_piece_121 hy_X5_init rfl rfl wg_581 wg_582 (Nat.le_refl _) (Nat.le_of_ble_eq_true rfl) (RM.mono h ?_)
                clear h
                intro vv K47 I45 L46 h
                obtain ⟨rfl, h⟩ := h
                obtain ⟨hL48, h⟩ := h
                change Z n0 xX12_piece (d + 1) 0 0 124 [(0, .ref (n0 + 0)), (1, .int p0), (2, .int p1), (3, .int p2), (4, zr n0 r8), (5, .int r37)] [.ref (n0 + b43), .int (I35 0 8), .ref (n0 + 4)] K47 I45 L46 Q
                obtain ⟨o49, o50, o51, h⟩ := h
                refine z_aast (t := 35) dX12_piece_124 (ca_4 hL48).2.1 (ca_4 hL48).2.2 (by unfold z_rt; decide) o49 o50 o51 ?_
                refine z_aload_n 0 dX12_piece_125 rfl ?_
                refine z_dup dX12_piece_126 rfl ?_
                refine fg_12_144 (I45 0 8) rfl dX12_piece_127 (co_0 hL48).1 (co_0 hL48).2 rfl ?_
                refine z_dup_x1 dX12_piece_130 rfl rfl ?_
                refine z_iconst 1 dX12_piece_131 (by decide) ?_
                refine z_iadd dX12_piece_132 ?_
                refine fp_12_144 rfl dX12_piece_133 (co_0 hL48).1 (co_0 hL48).2 ?_
                exact z_iret dX12_piece_136 rfl h
              · rw [if_neg g39] at h
                refine z_aload_n 0 dX12_piece_94 rfl ?_
                refine z_bipush (-6) dX12_piece_95 (by decide) ?_
                refine z_callV0 (As := [.int (-6)]) (st := []) dX12_piece_97 hy_X12_refuse (co_0 hL).1 (co_0 hL).2 (by decide) wg_462 wg_464 wg_0 (Nat.le_refl _) (Nat.le_of_ble_eq_true rfl) (RM0.mono h ?_)
                clear h
                intro vv I52 L53 h
                obtain ⟨r54, rfl, h⟩ := h
                change Z n0 xX12_piece (d + 1) 7 71 100 [(0, .ref (n0 + 0)), (1, .int p0), (2, .int p1), (3, .int p2), (4, zr n0 r8), (5, .int r37)] [.int r54] K I52 L53 Q
                exact z_iret dX12_piece_100 rfl h
            · rw [if_neg g38] at h
              refine z_aload_n 0 dX12_piece_78 rfl ?_
              refine z_iload 5 dX12_piece_79 rfl ?_
              refine z_callV0 (As := [.int r37]) (st := []) dX12_piece_81 hy_X12_refuse (co_0 hL).1 (co_0 hL).2 (by decide) wg_462 wg_464 wg_0 (Nat.le_refl _) (Nat.le_of_ble_eq_true rfl) (RM0.mono h ?_)
              clear h
              intro vv I55 L56 h
              obtain ⟨r57, rfl, h⟩ := h
              change Z n0 xX12_piece (d + 1) 7 71 84 [(0, .ref (n0 + 0)), (1, .int p0), (2, .int p1), (3, .int p2), (4, zr n0 r8), (5, .int r37)] [.int r57] K I55 L56 Q
              exact z_iret dX12_piece_84 rfl h
          · rw [if_neg g34] at h
            refine z_aload_n 0 dX12_piece_57 rfl ?_
            refine z_bipush (-3) dX12_piece_58 (by decide) ?_
            refine z_callV0 (As := [.int (-3)]) (st := []) dX12_piece_60 hy_X12_refuse (co_0 hL).1 (co_0 hL).2 (by decide) wg_462 wg_464 wg_0 (Nat.le_refl _) (Nat.le_of_ble_eq_true rfl) (RM0.mono h ?_)
            clear h
            intro vv I58 L59 h
            obtain ⟨r60, rfl, h⟩ := h
            change Z n0 xX12_piece (d + 1) 7 71 63 [(0, .ref (n0 + 0)), (1, .int p0), (2, .int p1), (3, .int p2), (4, zr n0 r8)] [.int r60] K I58 L59 Q
            exact z_iret dX12_piece_63 rfl h
      · rw [if_pos g9] at h
        refine z_aloadO 4 dX12_piece_28 rfl ?_
        refine z_ifnull 41 dX12_piece_30 (by decide) (fun g61 => ?_) (fun q62 g61 => ?_)
        · replace h := h.1 g61
          subst g61
          change Z n0 xX12_piece (d + 1) 7 71 41 [(0, .ref (n0 + 0)), (1, .int p0), (2, .int p1), (3, .int p2), (4, .null)] [] K I6 L7 Q
          refine z_aload_n 0 dX12_piece_41 rfl ?_
          refine z_iconst (-1) dX12_piece_42 (by decide) ?_
          refine z_callV0 (As := [.int (-1)]) (st := []) dX12_piece_43 hy_X12_refuse (co_0 hL).1 (co_0 hL).2 (by decide) wg_462 wg_464 wg_0 (Nat.le_refl _) (Nat.le_of_ble_eq_true rfl) (RM0.mono h ?_)
          clear h
          intro vv I63 L64 h
          obtain ⟨r65, rfl, h⟩ := h
          change Z n0 xX12_piece (d + 1) 7 71 46 [(0, .ref (n0 + 0)), (1, .int p0), (2, .int p1), (3, .int p2), (4, .null)] [.int r65] K I63 L64 Q
          exact z_iret dX12_piece_46 rfl h
        · replace h := h.2 q62 g61
          subst g61
          change Z n0 xX12_piece (d + 1) 7 71 33 [(0, .ref (n0 + 0)), (1, .int p0), (2, .int p1), (3, .int p2), (4, .ref (n0 + q62))] [] K I6 L7 Q
          refine z_aload 4 dX12_piece_33 rfl ?_
          obtain ⟨o66, o67, h⟩ := h
          refine z_callV0 (As := []) (st := []) dX12_piece_35 hy_X5_lends o66 o67 (by decide) wg_576 wg_577 wg_578 (Nat.le_refl _) (Nat.le_of_ble_eq_true rfl) (RM0.mono h ?_)
          clear h
          intro vv I68 L69 h
          obtain ⟨r70, rfl, h⟩ := h
          change Z n0 xX12_piece (d + 1) 7 71 38 [(0, .ref (n0 + 0)), (1, .int p0), (2, .int p1), (3, .int p2), (4, .ref (n0 + q62))] [.int r70] K I68 L69 Q
          refine z_if_ne 47 dX12_piece_38 (by decide) (fun g71 => ?_) (fun g71 => ?_)
          · rw [if_neg g71] at h
            refine z_iload_n 1 dX12_piece_47 rfl ?_
            refine z_iconst 3 dX12_piece_48 (by decide) ?_
            refine z_icmp_eq 64 dX12_piece_49 (by decide) (fun g72 => ?_) (fun g72 => ?_)
            · rw [if_pos g72] at h
              refine z_iload_n 2 dX12_piece_64 rfl ?_
              refine z_iconst 3 dX12_piece_65 (by decide) ?_
              refine z_bipush 10 dX12_piece_66 (by decide) ?_
              refine z_callS0 (As := [.int p1, .int 3, .int 10]) (st := []) dX12_piece_68 hy_X12_outside wg_476 wg_477 (Nat.le_refl _) (Nat.le_of_ble_eq_true rfl) (RM0.mono h ?_)
              clear h
              intro vv I73 L74 h
              obtain ⟨r75, rfl, h⟩ := h
              change Z n0 xX12_piece (d + 1) 7 71 71 [(0, .ref (n0 + 0)), (1, .int p0), (2, .int p1), (3, .int p2), (4, .ref (n0 + q62))] [.int r75] K I73 L74 Q
              refine z_istore [1, 2, 3, 4, 5, 0] [(0, .ref (n0 + 0)), (1, .int p0), (2, .int p1), (3, .int p2), (4, .ref (n0 + q62)), (5, .int r75)] dX12_piece_71 (by decide) rfl ?_
              refine z_iload 5 dX12_piece_73 rfl ?_
              refine z_if_eq 85 dX12_piece_75 (by decide) (fun g76 => ?_) (fun g76 => ?_)
              · rw [if_pos g76] at h
                refine z_aload_n 0 dX12_piece_85 rfl ?_
                refine fg_12_144 (I73 0 8) rfl dX12_piece_86 (co_0 hL).1 (co_0 hL).2 rfl ?_
                refine z_bipush 16 dX12_piece_89 (by decide) ?_
                refine z_icmp_lt 101 dX12_piece_91 (by decide) (fun g77 => ?_) (fun g77 => ?_)
                · rw [if_pos g77] at h
                  refine z_aload_n 0 dX12_piece_101 rfl ?_
                  refine fg_12_27 (some 4) rfl dX12_piece_102 (co_0 hL).1 (co_0 hL).2 (ca_4 hL).1 ?_
                  refine z_aload_n 0 dX12_piece_105 rfl ?_
                  refine fg_12_144 (I73 0 8) rfl dX12_piece_106 (co_0 hL).1 (co_0 hL).2 rfl ?_
                  refine z_new (rc := 6) (rs := 60) (c := 5) dX12_piece_109 (by decide) wg_136 wg_580 wg_116 ?_
                  obtain ⟨b81, b81e⟩ : ∃ b, K.1 = b := ⟨_, rfl⟩
                  obtain ⟨K78, K78e⟩ : ∃ k, k = zN K 5 0 := ⟨_, rfl⟩
                  obtain ⟨I79, I79e⟩ : ∃ k, k = zI0 I73 b81 := ⟨_, rfl⟩
                  obtain ⟨L80, L80e⟩ : ∃ k, k = zL0 L74 b81 := ⟨_, rfl⟩
                  rw [b81e, ← K78e, ← I79e, ← L80e]
                  replace h := h b81 b81e K78 K78e I79 I79e L80 L80e
                  obtain ⟨hL82, h⟩ := h
                  change Z n0 xX12_piece (d + 1) 6 60 112 [(0, .ref (n0 + 0)), (1, .int p0), (2, .int p1), (3, .int p2), (4, .ref (n0 + q62)), (5, .int r75)] [.ref (n0 + b81), .int (I73 0 8), .ref (n0 + 4)] K78 I79 L80 Q
                  refine z_dup dX12_piece_112 rfl ?_
                  refine z_aload_n 0 dX12_piece_113 rfl ?_
                  refine fg_12_144 (I79 0 8) rfl dX12_piece_114 (co_0 hL82).1 (co_0 hL82).2 rfl ?_
                  refine z_iload_n 1 dX12_piece_117 rfl ?_
                  refine z_iload_n 2 dX12_piece_118 rfl ?_
                  refine z_aload 4 dX12_piece_119 rfl ?_
                  refine z_callI (rc := 0) (rs := 0) (mc1 := 6) (ms1 := 60) (As := [.int (I79 0 8), .int p0, .int p1, .ref (n0 + q62)]) (st := [.ref (n0 + b81), .int (I73 0 8), .ref (n0 + 4)]) dX12_piece_121 hy_X5_init rfl rfl wg_581 wg_582 (Nat.le_refl _) (Nat.le_of_ble_eq_true rfl) (RM.mono h ?_)
                  clear h
                  intro vv K85 I83 L84 h
                  obtain ⟨rfl, h⟩ := h
                  obtain ⟨hL86, h⟩ := h
                  change Z n0 xX12_piece (d + 1) 0 0 124 [(0, .ref (n0 + 0)), (1, .int p0), (2, .int p1), (3, .int p2), (4, .ref (n0 + q62)), (5, .int r75)] [.ref (n0 + b81), .int (I73 0 8), .ref (n0 + 4)] K85 I83 L84 Q
                  obtain ⟨o87, o88, o89, h⟩ := h
                  refine z_aast (t := 35) dX12_piece_124 (ca_4 hL86).2.1 (ca_4 hL86).2.2 (by unfold z_rt; decide) o87 o88 o89 ?_
                  refine z_aload_n 0 dX12_piece_125 rfl ?_
                  refine z_dup dX12_piece_126 rfl ?_
                  refine fg_12_144 (I83 0 8) rfl dX12_piece_127 (co_0 hL86).1 (co_0 hL86).2 rfl ?_
                  refine z_dup_x1 dX12_piece_130 rfl rfl ?_
                  refine z_iconst 1 dX12_piece_131 (by decide) ?_
                  refine z_iadd dX12_piece_132 ?_
                  refine fp_12_144 rfl dX12_piece_133 (co_0 hL86).1 (co_0 hL86).2 ?_
                  exact z_iret dX12_piece_136 rfl h
                · rw [if_neg g77] at h
                  refine z_aload_n 0 dX12_piece_94 rfl ?_
                  refine z_bipush (-6) dX12_piece_95 (by decide) ?_
                  refine z_callV0 (As := [.int (-6)]) (st := []) dX12_piece_97 hy_X12_refuse (co_0 hL).1 (co_0 hL).2 (by decide) wg_462 wg_464 wg_0 (Nat.le_refl _) (Nat.le_of_ble_eq_true rfl) (RM0.mono h ?_)
                  clear h
                  intro vv I90 L91 h
                  obtain ⟨r92, rfl, h⟩ := h
                  change Z n0 xX12_piece (d + 1) 7 71 100 [(0, .ref (n0 + 0)), (1, .int p0), (2, .int p1), (3, .int p2), (4, .ref (n0 + q62)), (5, .int r75)] [.int r92] K I90 L91 Q
                  exact z_iret dX12_piece_100 rfl h
              · rw [if_neg g76] at h
                refine z_aload_n 0 dX12_piece_78 rfl ?_
                refine z_iload 5 dX12_piece_79 rfl ?_
                refine z_callV0 (As := [.int r75]) (st := []) dX12_piece_81 hy_X12_refuse (co_0 hL).1 (co_0 hL).2 (by decide) wg_462 wg_464 wg_0 (Nat.le_refl _) (Nat.le_of_ble_eq_true rfl) (RM0.mono h ?_)
                clear h
                intro vv I93 L94 h
                obtain ⟨r95, rfl, h⟩ := h
                change Z n0 xX12_piece (d + 1) 7 71 84 [(0, .ref (n0 + 0)), (1, .int p0), (2, .int p1), (3, .int p2), (4, .ref (n0 + q62)), (5, .int r75)] [.int r95] K I93 L94 Q
                exact z_iret dX12_piece_84 rfl h
            · rw [if_neg g72] at h
              refine z_iload_n 3 dX12_piece_52 rfl ?_
              refine z_iconst (-1) dX12_piece_53 (by decide) ?_
              refine z_icmp_eq 64 dX12_piece_54 (by decide) (fun g96 => ?_) (fun g96 => ?_)
              · rw [if_pos g96] at h
                refine z_iload_n 2 dX12_piece_64 rfl ?_
                refine z_iconst 3 dX12_piece_65 (by decide) ?_
                refine z_bipush 10 dX12_piece_66 (by decide) ?_
                refine z_callS0 (As := [.int p1, .int 3, .int 10]) (st := []) dX12_piece_68 hy_X12_outside wg_476 wg_477 (Nat.le_refl _) (Nat.le_of_ble_eq_true rfl) (RM0.mono h ?_)
                clear h
                intro vv I97 L98 h
                obtain ⟨r99, rfl, h⟩ := h
                change Z n0 xX12_piece (d + 1) 7 71 71 [(0, .ref (n0 + 0)), (1, .int p0), (2, .int p1), (3, .int p2), (4, .ref (n0 + q62))] [.int r99] K I97 L98 Q
                refine z_istore [1, 2, 3, 4, 5, 0] [(0, .ref (n0 + 0)), (1, .int p0), (2, .int p1), (3, .int p2), (4, .ref (n0 + q62)), (5, .int r99)] dX12_piece_71 (by decide) rfl ?_
                refine z_iload 5 dX12_piece_73 rfl ?_
                refine z_if_eq 85 dX12_piece_75 (by decide) (fun g100 => ?_) (fun g100 => ?_)
                · rw [if_pos g100] at h
                  refine z_aload_n 0 dX12_piece_85 rfl ?_
                  refine fg_12_144 (I97 0 8) rfl dX12_piece_86 (co_0 hL).1 (co_0 hL).2 rfl ?_
                  refine z_bipush 16 dX12_piece_89 (by decide) ?_
                  refine z_icmp_lt 101 dX12_piece_91 (by decide) (fun g101 => ?_) (fun g101 => ?_)
                  · rw [if_pos g101] at h
                    refine z_aload_n 0 dX12_piece_101 rfl ?_
                    refine fg_12_27 (some 4) rfl dX12_piece_102 (co_0 hL).1 (co_0 hL).2 (ca_4 hL).1 ?_
                    refine z_aload_n 0 dX12_piece_105 rfl ?_
                    refine fg_12_144 (I97 0 8) rfl dX12_piece_106 (co_0 hL).1 (co_0 hL).2 rfl ?_
                    refine z_new (rc := 6) (rs := 60) (c := 5) dX12_piece_109 (by decide) wg_136 wg_580 wg_116 ?_
                    obtain ⟨b105, b105e⟩ : ∃ b, K.1 = b := ⟨_, rfl⟩
                    obtain ⟨K102, K102e⟩ : ∃ k, k = zN K 5 0 := ⟨_, rfl⟩
                    obtain ⟨I103, I103e⟩ : ∃ k, k = zI0 I97 b105 := ⟨_, rfl⟩
                    obtain ⟨L104, L104e⟩ : ∃ k, k = zL0 L98 b105 := ⟨_, rfl⟩
                    rw [b105e, ← K102e, ← I103e, ← L104e]
                    replace h := h b105 b105e K102 K102e I103 I103e L104 L104e
                    obtain ⟨hL106, h⟩ := h
                    change Z n0 xX12_piece (d + 1) 6 60 112 [(0, .ref (n0 + 0)), (1, .int p0), (2, .int p1), (3, .int p2), (4, .ref (n0 + q62)), (5, .int r99)] [.ref (n0 + b105), .int (I97 0 8), .ref (n0 + 4)] K102 I103 L104 Q
                    refine z_dup dX12_piece_112 rfl ?_
                    refine z_aload_n 0 dX12_piece_113 rfl ?_
                    refine fg_12_144 (I103 0 8) rfl dX12_piece_114 (co_0 hL106).1 (co_0 hL106).2 rfl ?_
                    refine z_iload_n 1 dX12_piece_117 rfl ?_
                    refine z_iload_n 2 dX12_piece_118 rfl ?_
                    refine z_aload 4 dX12_piece_119 rfl ?_
                    refine z_callI (rc := 0) (rs := 0) (mc1 := 6) (ms1 := 60) (As := [.int (I103 0 8), .int p0, .int p1, .ref (n0 + q62)]) (st := [.ref (n0 + b105), .int (I97 0 8), .ref (n0 + 4)]) dX12_piece_121 hy_X5_init rfl rfl wg_581 wg_582 (Nat.le_refl _) (Nat.le_of_ble_eq_true rfl) (RM.mono h ?_)
                    clear h
                    intro vv K109 I107 L108 h
                    obtain ⟨rfl, h⟩ := h
                    obtain ⟨hL110, h⟩ := h
                    change Z n0 xX12_piece (d + 1) 0 0 124 [(0, .ref (n0 + 0)), (1, .int p0), (2, .int p1), (3, .int p2), (4, .ref (n0 + q62)), (5, .int r99)] [.ref (n0 + b105), .int (I97 0 8), .ref (n0 + 4)] K109 I107 L108 Q
                    obtain ⟨o111, o112, o113, h⟩ := h
                    refine z_aast (t := 35) dX12_piece_124 (ca_4 hL110).2.1 (ca_4 hL110).2.2 (by unfold z_rt; decide) o111 o112 o113 ?_
                    refine z_aload_n 0 dX12_piece_125 rfl ?_
                    refine z_dup dX12_piece_126 rfl ?_
                    refine fg_12_144 (I107 0 8) rfl dX12_piece_127 (co_0 hL110).1 (co_0 hL110).2 rfl ?_
                    refine z_dup_x1 dX12_piece_130 rfl rfl ?_
                    refine z_iconst 1 dX12_piece_131 (by decide) ?_
                    refine z_iadd dX12_piece_132 ?_
                    refine fp_12_144 rfl dX12_piece_133 (co_0 hL110).1 (co_0 hL110).2 ?_
                    exact z_iret dX12_piece_136 rfl h
                  · rw [if_neg g101] at h
                    refine z_aload_n 0 dX12_piece_94 rfl ?_
                    refine z_bipush (-6) dX12_piece_95 (by decide) ?_
                    refine z_callV0 (As := [.int (-6)]) (st := []) dX12_piece_97 hy_X12_refuse (co_0 hL).1 (co_0 hL).2 (by decide) wg_462 wg_464 wg_0 (Nat.le_refl _) (Nat.le_of_ble_eq_true rfl) (RM0.mono h ?_)
                    clear h
                    intro vv I114 L115 h
                    obtain ⟨r116, rfl, h⟩ := h
                    change Z n0 xX12_piece (d + 1) 7 71 100 [(0, .ref (n0 + 0)), (1, .int p0), (2, .int p1), (3, .int p2), (4, .ref (n0 + q62)), (5, .int r99)] [.int r116] K I114 L115 Q
                    exact z_iret dX12_piece_100 rfl h
                · rw [if_neg g100] at h
                  refine z_aload_n 0 dX12_piece_78 rfl ?_
                  refine z_iload 5 dX12_piece_79 rfl ?_
                  refine z_callV0 (As := [.int r99]) (st := []) dX12_piece_81 hy_X12_refuse (co_0 hL).1 (co_0 hL).2 (by decide) wg_462 wg_464 wg_0 (Nat.le_refl _) (Nat.le_of_ble_eq_true rfl) (RM0.mono h ?_)
                  clear h
                  intro vv I117 L118 h
                  obtain ⟨r119, rfl, h⟩ := h
                  change Z n0 xX12_piece (d + 1) 7 71 84 [(0, .ref (n0 + 0)), (1, .int p0), (2, .int p1), (3, .int p2), (4, .ref (n0 + q62)), (5, .int r99)] [.int r119] K I117 L118 Q
                  exact z_iret dX12_piece_84 rfl h
              · rw [if_neg g96] at h
                refine z_aload_n 0 dX12_piece_57 rfl ?_
                refine z_bipush (-3) dX12_piece_58 (by decide) ?_
                refine z_callV0 (As := [.int (-3)]) (st := []) dX12_piece_60 hy_X12_refuse (co_0 hL).1 (co_0 hL).2 (by decide) wg_462 wg_464 wg_0 (Nat.le_refl _) (Nat.le_of_ble_eq_true rfl) (RM0.mono h ?_)
                clear h
                intro vv I120 L121 h
                obtain ⟨r122, rfl, h⟩ := h
                change Z n0 xX12_piece (d + 1) 7 71 63 [(0, .ref (n0 + 0)), (1, .int p0), (2, .int p1), (3, .int p2), (4, .ref (n0 + q62))] [.int r122] K I120 L121 Q
                exact z_iret dX12_piece_63 rfl h
          · rw [if_pos g71] at h
            refine z_aload_n 0 dX12_piece_41 rfl ?_
            refine z_iconst (-1) dX12_piece_42 (by decide) ?_
            refine z_callV0 (As := [.int (-1)]) (st := []) dX12_piece_43 hy_X12_refuse (co_0 hL).1 (co_0 hL).2 (by decide) wg_462 wg_464 wg_0 (Nat.le_refl _) (Nat.le_of_ble_eq_true rfl) (RM0.mono h ?_)
            clear h
            intro vv I123 L124 h
            obtain ⟨r125, rfl, h⟩ := h
            change Z n0 xX12_piece (d + 1) 7 71 46 [(0, .ref (n0 + 0)), (1, .int p0), (2, .int p1), (3, .int p2), (4, .ref (n0 + q62))] [.int r125] K I123 L124 Q
            exact z_iret dX12_piece_46 rfl h
    · rw [if_pos g5] at h
      refine z_aload_n 0 dX12_piece_9 rfl ?_
      refine z_bipush (-2) dX12_piece_10 (by decide) ?_
      refine z_callV0 (As := [.int (-2)]) (st := []) dX12_piece_12 hy_X12_refuse (co_0 hL).1 (co_0 hL).2 (by decide) wg_462 wg_464 wg_0 (Nat.le_refl _) (Nat.le_of_ble_eq_true rfl) (RM0.mono h ?_)
      clear h
      intro vv I126 L127 h
      obtain ⟨r128, rfl, h⟩ := h
      change Z n0 xX12_piece (d + 1) 7 71 15 [(0, .ref (n0 + 0)), (1, .int p0), (2, .int p1), (3, .int p2)] [.int r128] K I126 L127 Q
      exact z_iret dX12_piece_15 rfl h
theorem dX12_withdraw_0 : decode cX12_withdraw 0 = .ok (.aload_n 0, 1) := by decide +kernel
theorem dX12_withdraw_1 : decode cX12_withdraw 1 = .ok (.iload_n 1, 1) := by decide +kernel
theorem dX12_withdraw_2 : decode cX12_withdraw 2 = .ok (.invokevirtual 136, 3) := by decide +kernel
theorem dX12_withdraw_5 : decode cX12_withdraw 5 = .ok (.astore_n 2, 1) := by decide +kernel
theorem dX12_withdraw_6 : decode cX12_withdraw 6 = .ok (.aload_n 2, 1) := by decide +kernel
theorem dX12_withdraw_7 : decode cX12_withdraw 7 = .ok (.ifnonnull 9, 3) := by decide +kernel
theorem dX12_withdraw_10 : decode cX12_withdraw 10 = .ok (.aload_n 0, 1) := by decide +kernel
theorem dX12_withdraw_11 : decode cX12_withdraw 11 = .ok (.iconst (-1), 1) := by decide +kernel
theorem dX12_withdraw_12 : decode cX12_withdraw 12 = .ok (.invokevirtual 85, 3) := by decide +kernel
theorem dX12_withdraw_15 : decode cX12_withdraw 15 = .ok (.ireturn, 1) := by decide +kernel
theorem dX12_withdraw_16 : decode cX12_withdraw 16 = .ok (.aload_n 2, 1) := by decide +kernel
theorem dX12_withdraw_17 : decode cX12_withdraw 17 = .ok (.getfield 150, 3) := by decide +kernel
theorem dX12_withdraw_20 : decode cX12_withdraw 20 = .ok (.ifCond .eq 10, 3) := by decide +kernel
theorem dX12_withdraw_23 : decode cX12_withdraw 23 = .ok (.aload_n 0, 1) := by decide +kernel
theorem dX12_withdraw_24 : decode cX12_withdraw 24 = .ok (.bipush (-3), 2) := by decide +kernel
theorem dX12_withdraw_26 : decode cX12_withdraw 26 = .ok (.invokevirtual 85, 3) := by decide +kernel
theorem dX12_withdraw_29 : decode cX12_withdraw 29 = .ok (.ireturn, 1) := by decide +kernel
theorem dX12_withdraw_30 : decode cX12_withdraw 30 = .ok (.aload_n 2, 1) := by decide +kernel
theorem dX12_withdraw_31 : decode cX12_withdraw 31 = .ok (.iconst 1, 1) := by decide +kernel
theorem dX12_withdraw_32 : decode cX12_withdraw 32 = .ok (.putfield 150, 3) := by decide +kernel
theorem dX12_withdraw_35 : decode cX12_withdraw 35 = .ok (.iconst 1, 1) := by decide +kernel
theorem dX12_withdraw_36 : decode cX12_withdraw 36 = .ok (.ireturn, 1) := by decide +kernel
set_option maxRecDepth 100000 in
set_option maxHeartbeats 4000000 in
theorem wp_X12_withdraw {n0 d : Nat} {K : z_K} {I : z_I} {L : z_L} {Q : z_q} {p0 : Int32} (hL : CLay K) (h : RM0 n0 xX12_pieceOf d [.ref (n0 + 0), .int p0] K I L (fun vv I1 L2 => ∃ r3 : Option Nat, vv = some (zr n0 r3) ∧ ((r3 = none → RM0 n0 xX12_refuse d [.ref (n0 + 0), .int (-1)] K I1 L2 (fun vv I6 L7 => ∃ r8 : Int32, vv = some (.int r8) ∧ Q (some (.int r8)) I6 L7)) ∧ (∀ q5, r3 = some q5 → q5 < K.1 ∧ (K.2.1 q5).1 = 5 ∧ (if ((I1 q5 4) : Int32) = 0 then Q (some (.int 1)) (zI I1 q5 4 1) L2 else RM0 n0 xX12_refuse d [.ref (n0 + 0), .int (-3)] K I1 L2 (fun vv I12 L13 => ∃ r14 : Int32, vv = some (.int r14) ∧ Q (some (.int r14)) I12 L13)))))) : RM0 n0 xX12_withdraw (d + 1) [.ref (n0 + 0), .int p0] K I L Q := by
  refine z_entry0 (by decide) (Nat.le_of_ble_eq_true rfl) ?_
  change Z n0 xX12_withdraw (d + 1) 0 0 0 [(0, .ref (n0 + 0)), (1, .int p0)] [] K I L (z_q0 K Q)
  refine z_aload_n 0 dX12_withdraw_0 rfl ?_
  refine z_iload_n 1 dX12_withdraw_1 rfl ?_
  refine z_callV0 (As := [.int p0]) (st := []) dX12_withdraw_2 hy_X12_pieceOf (co_0 hL).1 (co_0 hL).2 (by decide) wg_572 wg_574 wg_5 (Nat.le_refl _) (Nat.le_of_ble_eq_true rfl) (RM0.mono h ?_)
  clear h
  intro vv I1 L2 h
  obtain ⟨r3, rfl, h⟩ := h
  change Z n0 xX12_withdraw (d + 1) 0 0 5 [(0, .ref (n0 + 0)), (1, .int p0)] [zr n0 r3] K I1 L2 (z_q0 K Q)
  refine z_astore_nO [1, 2, 0] [(0, .ref (n0 + 0)), (1, .int p0), (2, zr n0 r3)] dX12_withdraw_5 (by decide) (fun v hv => by subst hv; rfl) ?_
  refine z_aload_nO 2 dX12_withdraw_6 rfl ?_
  refine z_ifnonnull 16 dX12_withdraw_7 (by decide) (fun q5 g4 => ?_) (fun g4 => ?_)
  · replace h := h.2 q5 g4
    subst g4
    change Z n0 xX12_withdraw (d + 1) 0 0 16 [(0, .ref (n0 + 0)), (1, .int p0), (2, .ref (n0 + q5))] [] K I1 L2 (z_q0 K Q)
    refine z_aload_n 2 dX12_withdraw_16 rfl ?_
    obtain ⟨o9, o10, h⟩ := h
    refine fg_12_150 (I1 q5 4) rfl dX12_withdraw_17 o9 o10 rfl ?_
    refine z_if_eq 30 dX12_withdraw_20 (by decide) (fun g11 => ?_) (fun g11 => ?_)
    · rw [if_pos g11] at h
      refine z_aload_n 2 dX12_withdraw_30 rfl ?_
      refine z_iconst 1 dX12_withdraw_31 (by decide) ?_
      refine fp_12_150 rfl dX12_withdraw_32 o9 o10 (Or.inr rfl) ?_
      refine z_iconst 1 dX12_withdraw_35 (by decide) ?_
      exact z_iret dX12_withdraw_36 rfl ⟨rfl, h⟩
    · rw [if_neg g11] at h
      refine z_aload_n 0 dX12_withdraw_23 rfl ?_
      refine z_bipush (-3) dX12_withdraw_24 (by decide) ?_
      refine z_callV0 (As := [.int (-3)]) (st := []) dX12_withdraw_26 hy_X12_refuse (co_0 hL).1 (co_0 hL).2 (by decide) wg_462 wg_464 wg_0 (Nat.le_refl _) (Nat.le_of_ble_eq_true rfl) (RM0.mono h ?_)
      clear h
      intro vv I12 L13 h
      obtain ⟨r14, rfl, h⟩ := h
      change Z n0 xX12_withdraw (d + 1) 0 0 29 [(0, .ref (n0 + 0)), (1, .int p0), (2, .ref (n0 + q5))] [.int r14] K I12 L13 (z_q0 K Q)
      exact z_iret dX12_withdraw_29 rfl ⟨rfl, h⟩
  · replace h := h.1 g4
    subst g4
    change Z n0 xX12_withdraw (d + 1) 0 0 10 [(0, .ref (n0 + 0)), (1, .int p0), (2, .null)] [] K I1 L2 (z_q0 K Q)
    refine z_aload_n 0 dX12_withdraw_10 rfl ?_
    refine z_iconst (-1) dX12_withdraw_11 (by decide) ?_
    refine z_callV0 (As := [.int (-1)]) (st := []) dX12_withdraw_12 hy_X12_refuse (co_0 hL).1 (co_0 hL).2 (by decide) wg_462 wg_464 wg_0 (Nat.le_refl _) (Nat.le_of_ble_eq_true rfl) (RM0.mono h ?_)
    clear h
    intro vv I6 L7 h
    obtain ⟨r8, rfl, h⟩ := h
    change Z n0 xX12_withdraw (d + 1) 0 0 15 [(0, .ref (n0 + 0)), (1, .int p0), (2, .null)] [.int r8] K I6 L7 (z_q0 K Q)
    exact z_iret dX12_withdraw_15 rfl ⟨rfl, h⟩
theorem dX12_feed_0 : decode cX12_feed 0 = .ok (.iload_n 1, 1) := by decide +kernel
theorem dX12_feed_1 : decode cX12_feed 1 = .ok (.iconst 1, 1) := by decide +kernel
theorem dX12_feed_2 : decode cX12_feed 2 = .ok (.if_icmp .ge 10, 3) := by decide +kernel
theorem dX12_feed_5 : decode cX12_feed 5 = .ok (.aload_n 0, 1) := by decide +kernel
theorem dX12_feed_6 : decode cX12_feed 6 = .ok (.bipush (-4), 2) := by decide +kernel
theorem dX12_feed_8 : decode cX12_feed 8 = .ok (.invokevirtual 85, 3) := by decide +kernel
theorem dX12_feed_11 : decode cX12_feed 11 = .ok (.ireturn, 1) := by decide +kernel
theorem dX12_feed_12 : decode cX12_feed 12 = .ok (.iload_n 1, 1) := by decide +kernel
theorem dX12_feed_13 : decode cX12_feed 13 = .ok (.bipush 8, 2) := by decide +kernel
theorem dX12_feed_15 : decode cX12_feed 15 = .ok (.if_icmp .gt 17, 3) := by decide +kernel
theorem dX12_feed_18 : decode cX12_feed 18 = .ok (.iload_n 1, 1) := by decide +kernel
theorem dX12_feed_19 : decode cX12_feed 19 = .ok (.bipush 60, 2) := by decide +kernel
theorem dX12_feed_21 : decode cX12_feed 21 = .ok (.aload_n 0, 1) := by decide +kernel
theorem dX12_feed_22 : decode cX12_feed 22 = .ok (.getfield 34, 3) := by decide +kernel
theorem dX12_feed_25 : decode cX12_feed 25 = .ok (.getfield 154, 3) := by decide +kernel
theorem dX12_feed_28 : decode cX12_feed 28 = .ok (.isub, 1) := by decide +kernel
theorem dX12_feed_29 : decode cX12_feed 29 = .ok (.if_icmp .le 10, 3) := by decide +kernel
theorem dX12_feed_32 : decode cX12_feed 32 = .ok (.aload_n 0, 1) := by decide +kernel
theorem dX12_feed_33 : decode cX12_feed 33 = .ok (.bipush (-6), 2) := by decide +kernel
theorem dX12_feed_35 : decode cX12_feed 35 = .ok (.invokevirtual 85, 3) := by decide +kernel
theorem dX12_feed_38 : decode cX12_feed 38 = .ok (.ireturn, 1) := by decide +kernel
theorem dX12_feed_39 : decode cX12_feed 39 = .ok (.iconst 0, 1) := by decide +kernel
theorem dX12_feed_40 : decode cX12_feed 40 = .ok (.istore 4, 2) := by decide +kernel
theorem dX12_feed_42 : decode cX12_feed 42 = .ok (.iload 4, 2) := by decide +kernel
theorem dX12_feed_44 : decode cX12_feed 44 = .ok (.iload_n 1, 1) := by decide +kernel
theorem dX12_feed_45 : decode cX12_feed 45 = .ok (.if_icmp .ge 28, 3) := by decide +kernel
theorem dX12_feed_48 : decode cX12_feed 48 = .ok (.aload_n 0, 1) := by decide +kernel
theorem dX12_feed_49 : decode cX12_feed 49 = .ok (.getfield 34, 3) := by decide +kernel
theorem dX12_feed_52 : decode cX12_feed 52 = .ok (.lload_n 2, 1) := by decide +kernel
theorem dX12_feed_53 : decode cX12_feed 53 = .ok (.bipush 8, 2) := by decide +kernel
theorem dX12_feed_55 : decode cX12_feed 55 = .ok (.iload 4, 2) := by decide +kernel
theorem dX12_feed_57 : decode cX12_feed 57 = .ok (.imul, 1) := by decide +kernel
theorem dX12_feed_58 : decode cX12_feed 58 = .ok (.lushr, 1) := by decide +kernel
theorem dX12_feed_59 : decode cX12_feed 59 = .ok (.l2i, 1) := by decide +kernel
theorem dX12_feed_60 : decode cX12_feed 60 = .ok (.sipush 255, 3) := by decide +kernel
theorem dX12_feed_63 : decode cX12_feed 63 = .ok (.iand, 1) := by decide +kernel
theorem dX12_feed_64 : decode cX12_feed 64 = .ok (.invokevirtual 157, 3) := by decide +kernel
theorem dX12_feed_67 : decode cX12_feed 67 = .ok (.iinc 4 1, 3) := by decide +kernel
theorem dX12_feed_70 : decode cX12_feed 70 = .ok (.goto (-28), 3) := by decide +kernel
theorem dX12_feed_73 : decode cX12_feed 73 = .ok (.aload_n 0, 1) := by decide +kernel
theorem dX12_feed_74 : decode cX12_feed 74 = .ok (.getfield 34, 3) := by decide +kernel
theorem dX12_feed_77 : decode cX12_feed 77 = .ok (.getfield 154, 3) := by decide +kernel
theorem dX12_feed_80 : decode cX12_feed 80 = .ok (.ireturn, 1) := by decide +kernel
set_option maxRecDepth 100000 in
set_option maxHeartbeats 4000000 in
theorem wp_X12_feed {n0 d : Nat} {K : z_K} {I : z_I} {L : z_L} {Q : z_q} {p0 : Int32} {p1 : Int64} (hL : CLay K) (h : (if p0 < 1 then RM0 n0 xX12_refuse d [.ref (n0 + 0), .int (-4)] K I L (fun vv I10 L11 => ∃ r12 : Int32, vv = some (.int r12) ∧ Q (some (.int r12)) I10 L11) else (if 8 < p0 then RM0 n0 xX12_refuse d [.ref (n0 + 0), .int (-6)] K I L (fun vv I3 L4 => ∃ r5 : Int32, vv = some (.int r5) ∧ Q (some (.int r5)) I3 L4) else (if (60 - (I 5 1)) < p0 then RM0 n0 xX12_refuse d [.ref (n0 + 0), .int (-6)] K I L (fun vv I7 L8 => ∃ r9 : Int32, vv = some (.int r9) ∧ Q (some (.int r9)) I7 L8) else Z n0 xX12_feed (d + 1) 0 0 42 [(0, .ref (n0 + 0)), (1, .int p0), (2, .long p1), (4, .int 0)] [] K I L (z_q0 K Q))))) : RM0 n0 xX12_feed (d + 1) [.ref (n0 + 0), .int p0, .long p1] K I L Q := by
  refine z_entry0 (by decide) (Nat.le_of_ble_eq_true rfl) ?_
  change Z n0 xX12_feed (d + 1) 0 0 0 [(0, .ref (n0 + 0)), (1, .int p0), (2, .long p1)] [] K I L (z_q0 K Q)
  refine z_iload_n 1 dX12_feed_0 rfl ?_
  refine z_iconst 1 dX12_feed_1 (by decide) ?_
  refine z_icmp_ge 12 dX12_feed_2 (by decide) (fun g1 => ?_) (fun g1 => ?_)
  · rw [if_neg g1] at h
    refine z_iload_n 1 dX12_feed_12 rfl ?_
    refine z_bipush 8 dX12_feed_13 (by decide) ?_
    refine z_icmp_gt 32 dX12_feed_15 (by decide) (fun g2 => ?_) (fun g2 => ?_)
    · rw [if_pos g2] at h
      refine z_aload_n 0 dX12_feed_32 rfl ?_
      refine z_bipush (-6) dX12_feed_33 (by decide) ?_
      refine z_callV0 (As := [.int (-6)]) (st := []) dX12_feed_35 hy_X12_refuse (co_0 hL).1 (co_0 hL).2 (by decide) wg_462 wg_464 wg_0 (Nat.le_refl _) (Nat.le_of_ble_eq_true rfl) (RM0.mono h ?_)
      clear h
      intro vv I3 L4 h
      obtain ⟨r5, rfl, h⟩ := h
      change Z n0 xX12_feed (d + 1) 0 0 38 [(0, .ref (n0 + 0)), (1, .int p0), (2, .long p1)] [.int r5] K I3 L4 (z_q0 K Q)
      exact z_iret dX12_feed_38 rfl ⟨rfl, h⟩
    · rw [if_neg g2] at h
      refine z_iload_n 1 dX12_feed_18 rfl ?_
      refine z_bipush 60 dX12_feed_19 (by decide) ?_
      refine z_aload_n 0 dX12_feed_21 rfl ?_
      refine fg_12_34 (some 5) rfl dX12_feed_22 (co_0 hL).1 (co_0 hL).2 (cp_5 hL) ?_
      refine fg_12_154 (I 5 1) rfl dX12_feed_25 (co_5 hL).1 (co_5 hL).2 rfl ?_
      refine z_isub dX12_feed_28 ?_
      refine z_icmp_le 39 dX12_feed_29 (by decide) (fun g6 => ?_) (fun g6 => ?_)
      · rw [if_neg g6] at h
        refine z_iconst 0 dX12_feed_39 (by decide) ?_
        refine z_istore [1, 2, 3, 0] [(0, .ref (n0 + 0)), (1, .int p0), (2, .long p1), (4, .int 0)] dX12_feed_40 (by decide) rfl ?_
        exact h
      · rw [if_pos g6] at h
        refine z_aload_n 0 dX12_feed_32 rfl ?_
        refine z_bipush (-6) dX12_feed_33 (by decide) ?_
        refine z_callV0 (As := [.int (-6)]) (st := []) dX12_feed_35 hy_X12_refuse (co_0 hL).1 (co_0 hL).2 (by decide) wg_462 wg_464 wg_0 (Nat.le_refl _) (Nat.le_of_ble_eq_true rfl) (RM0.mono h ?_)
        clear h
        intro vv I7 L8 h
        obtain ⟨r9, rfl, h⟩ := h
        change Z n0 xX12_feed (d + 1) 0 0 38 [(0, .ref (n0 + 0)), (1, .int p0), (2, .long p1)] [.int r9] K I7 L8 (z_q0 K Q)
        exact z_iret dX12_feed_38 rfl ⟨rfl, h⟩
  · rw [if_pos g1] at h
    refine z_aload_n 0 dX12_feed_5 rfl ?_
    refine z_bipush (-4) dX12_feed_6 (by decide) ?_
    refine z_callV0 (As := [.int (-4)]) (st := []) dX12_feed_8 hy_X12_refuse (co_0 hL).1 (co_0 hL).2 (by decide) wg_462 wg_464 wg_0 (Nat.le_refl _) (Nat.le_of_ble_eq_true rfl) (RM0.mono h ?_)
    clear h
    intro vv I10 L11 h
    obtain ⟨r12, rfl, h⟩ := h
    change Z n0 xX12_feed (d + 1) 0 0 11 [(0, .ref (n0 + 0)), (1, .int p0), (2, .long p1)] [.int r12] K I10 L11 (z_q0 K Q)
    exact z_iret dX12_feed_11 rfl ⟨rfl, h⟩
set_option maxRecDepth 100000 in
set_option maxHeartbeats 4000000 in
theorem wp_X12_feed_42 {n0 d : Nat} {rc rs : Nat} {K : z_K} {I : z_I} {L : z_L} {Q : z_q} {a1 : Int32} {a2 : Int64} {a4 : Int32} (hL : CLay K) (h : (if a4 < a1 then RM0 n0 xX7_add d [.ref (n0 + 5), .int ((((((a2 : Int64).toUInt64 >>> (((8 * a4) : Int32).toInt64.toUInt64 &&& Int64.toUInt64 63)).toInt64) : Int64).toInt32) &&& 255)] K I L (fun vv I2 L3 => vv = none ∧ Z n0 xX12_feed (d + 1) rc rs 42 [(0, .ref (n0 + 0)), (1, .int a1), (2, .long a2), (4, .int (a4 + 1))] [] K I2 L3 (z_q0 K Q)) else Q (some (.int (I 5 1))) I L)) : Z n0 xX12_feed (d + 1) rc rs 42 [(0, .ref (n0 + 0)), (1, .int a1), (2, .long a2), (4, .int a4)] [] K I L (z_q0 K Q) := by
  refine z_iload 3 dX12_feed_42 rfl ?_
  refine z_iload_n 1 dX12_feed_44 rfl ?_
  refine z_icmp_ge 73 dX12_feed_45 (by decide) (fun g1 => ?_) (fun g1 => ?_)
  · rw [if_neg g1] at h
    refine z_aload_n 0 dX12_feed_73 rfl ?_
    refine fg_12_34 (some 5) rfl dX12_feed_74 (co_0 hL).1 (co_0 hL).2 (cp_5 hL) ?_
    refine fg_12_154 (I 5 1) rfl dX12_feed_77 (co_5 hL).1 (co_5 hL).2 rfl ?_
    exact z_iret dX12_feed_80 rfl ⟨rfl, h⟩
  · rw [if_pos g1] at h
    refine z_aload_n 0 dX12_feed_48 rfl ?_
    refine fg_12_34 (some 5) rfl dX12_feed_49 (co_0 hL).1 (co_0 hL).2 (cp_5 hL) ?_
    refine z_lload_n 2 dX12_feed_52 rfl ?_
    refine z_bipush 8 dX12_feed_53 (by decide) ?_
    refine z_iload 3 dX12_feed_55 rfl ?_
    refine z_imul dX12_feed_57 ?_
    refine z_lushr dX12_feed_58 ?_
    refine z_l2i dX12_feed_59 ?_
    refine z_sipush 255 dX12_feed_60 (by decide) ?_
    refine z_iand dX12_feed_63 ?_
    refine z_callV0 (As := [.int ((((((a2 : Int64).toUInt64 >>> (((8 * a4) : Int32).toInt64.toUInt64 &&& Int64.toUInt64 63)).toInt64) : Int64).toInt32) &&& 255)]) (st := []) dX12_feed_64 hy_X7_add (co_5 hL).1 (co_5 hL).2 (by decide) wg_647 wg_648 wg_649 (Nat.le_refl _) (Nat.le_of_ble_eq_true rfl) (RM0.mono h ?_)
    clear h
    intro vv I2 L3 h
    obtain ⟨rfl, h⟩ := h
    change Z n0 xX12_feed (d + 1) rc rs 67 [(0, .ref (n0 + 0)), (1, .int a1), (2, .long a2), (4, .int a4)] [] K I2 L3 (z_q0 K Q)
    refine z_iinc (j := 3) (a4 + 1) [1, 2, 3, 0] [(0, .ref (n0 + 0)), (1, .int a1), (2, .long a2), (4, .int (a4 + 1))] dX12_feed_67 rfl rfl (by decide) rfl ?_
    refine z_goto 42 dX12_feed_70 (by decide) ?_
    exact h
theorem dX12_rule_0 : decode cX12_rule 0 = .ok (.aload_n 0, 1) := by decide +kernel
theorem dX12_rule_1 : decode cX12_rule 1 = .ok (.iload_n 1, 1) := by decide +kernel
theorem dX12_rule_2 : decode cX12_rule 2 = .ok (.iload_n 2, 1) := by decide +kernel
theorem dX12_rule_3 : decode cX12_rule 3 = .ok (.invokevirtual 160, 3) := by decide +kernel
theorem dX12_rule_6 : decode cX12_rule 6 = .ok (.astore 4, 2) := by decide +kernel
theorem dX12_rule_8 : decode cX12_rule 8 = .ok (.aload 4, 2) := by decide +kernel
theorem dX12_rule_10 : decode cX12_rule 10 = .ok (.ifnonnull 9, 3) := by decide +kernel
theorem dX12_rule_13 : decode cX12_rule 13 = .ok (.aload_n 0, 1) := by decide +kernel
theorem dX12_rule_14 : decode cX12_rule 14 = .ok (.iconst (-1), 1) := by decide +kernel
theorem dX12_rule_15 : decode cX12_rule 15 = .ok (.invokevirtual 85, 3) := by decide +kernel
theorem dX12_rule_18 : decode cX12_rule 18 = .ok (.ireturn, 1) := by decide +kernel
theorem dX12_rule_19 : decode cX12_rule 19 = .ok (.aload 4, 2) := by decide +kernel
theorem dX12_rule_21 : decode cX12_rule 21 = .ok (.getfield 150, 3) := by decide +kernel
theorem dX12_rule_24 : decode cX12_rule 24 = .ok (.ifCond .eq 10, 3) := by decide +kernel
theorem dX12_rule_27 : decode cX12_rule 27 = .ok (.aload_n 0, 1) := by decide +kernel
theorem dX12_rule_28 : decode cX12_rule 28 = .ok (.bipush (-3), 2) := by decide +kernel
theorem dX12_rule_30 : decode cX12_rule 30 = .ok (.invokevirtual 85, 3) := by decide +kernel
theorem dX12_rule_33 : decode cX12_rule 33 = .ok (.ireturn, 1) := by decide +kernel
theorem dX12_rule_34 : decode cX12_rule 34 = .ok (.iload_n 3, 1) := by decide +kernel
theorem dX12_rule_35 : decode cX12_rule 35 = .ok (.aload_n 0, 1) := by decide +kernel
theorem dX12_rule_36 : decode cX12_rule 36 = .ok (.getfield 89, 3) := by decide +kernel
theorem dX12_rule_39 : decode cX12_rule 39 = .ok (.sipush 1000, 3) := by decide +kernel
theorem dX12_rule_42 : decode cX12_rule 42 = .ok (.invokestatic 100, 3) := by decide +kernel
theorem dX12_rule_45 : decode cX12_rule 45 = .ok (.istore 5, 2) := by decide +kernel
theorem dX12_rule_47 : decode cX12_rule 47 = .ok (.iload 5, 2) := by decide +kernel
theorem dX12_rule_49 : decode cX12_rule 49 = .ok (.ifCond .eq 10, 3) := by decide +kernel
theorem dX12_rule_52 : decode cX12_rule 52 = .ok (.aload_n 0, 1) := by decide +kernel
theorem dX12_rule_53 : decode cX12_rule 53 = .ok (.iload 5, 2) := by decide +kernel
theorem dX12_rule_55 : decode cX12_rule 55 = .ok (.invokevirtual 85, 3) := by decide +kernel
theorem dX12_rule_58 : decode cX12_rule 58 = .ok (.ireturn, 1) := by decide +kernel
theorem dX12_rule_59 : decode cX12_rule 59 = .ok (.aload_n 0, 1) := by decide +kernel
theorem dX12_rule_60 : decode cX12_rule 60 = .ok (.getfield 164, 3) := by decide +kernel
theorem dX12_rule_63 : decode cX12_rule 63 = .ok (.bipush 120, 2) := by decide +kernel
theorem dX12_rule_65 : decode cX12_rule 65 = .ok (.if_icmp .lt 10, 3) := by decide +kernel
theorem dX12_rule_68 : decode cX12_rule 68 = .ok (.aload_n 0, 1) := by decide +kernel
theorem dX12_rule_69 : decode cX12_rule 69 = .ok (.bipush (-6), 2) := by decide +kernel
theorem dX12_rule_71 : decode cX12_rule 71 = .ok (.invokevirtual 85, 3) := by decide +kernel
theorem dX12_rule_74 : decode cX12_rule 74 = .ok (.ireturn, 1) := by decide +kernel
theorem dX12_rule_75 : decode cX12_rule 75 = .ok (.aload_n 0, 1) := by decide +kernel
theorem dX12_rule_76 : decode cX12_rule 76 = .ok (.getfield 34, 3) := by decide +kernel
theorem dX12_rule_79 : decode cX12_rule 79 = .ok (.iload_n 2, 1) := by decide +kernel
theorem dX12_rule_80 : decode cX12_rule 80 = .ok (.invokevirtual 167, 3) := by decide +kernel
theorem dX12_rule_83 : decode cX12_rule 83 = .ok (.istore 6, 2) := by decide +kernel
theorem dX12_rule_85 : decode cX12_rule 85 = .ok (.aload_n 0, 1) := by decide +kernel
theorem dX12_rule_86 : decode cX12_rule 86 = .ok (.getfield 34, 3) := by decide +kernel
theorem dX12_rule_89 : decode cX12_rule 89 = .ok (.iconst 0, 1) := by decide +kernel
theorem dX12_rule_90 : decode cX12_rule 90 = .ok (.putfield 154, 3) := by decide +kernel
theorem dX12_rule_93 : decode cX12_rule 93 = .ok (.iload 6, 2) := by decide +kernel
theorem dX12_rule_95 : decode cX12_rule 95 = .ok (.ifCond .ne 14, 3) := by decide +kernel
theorem dX12_rule_98 : decode cX12_rule 98 = .ok (.bipush (-20), 2) := by decide +kernel
theorem dX12_rule_100 : decode cX12_rule 100 = .ok (.aload_n 0, 1) := by decide +kernel
theorem dX12_rule_101 : decode cX12_rule 101 = .ok (.getfield 34, 3) := by decide +kernel
theorem dX12_rule_104 : decode cX12_rule 104 = .ok (.getfield 170, 3) := by decide +kernel
theorem dX12_rule_107 : decode cX12_rule 107 = .ok (.isub, 1) := by decide +kernel
theorem dX12_rule_108 : decode cX12_rule 108 = .ok (.ireturn, 1) := by decide +kernel
theorem dX12_rule_109 : decode cX12_rule 109 = .ok (.aload 4, 2) := by decide +kernel
theorem dX12_rule_111 : decode cX12_rule 111 = .ok (.getfield 173, 3) := by decide +kernel
theorem dX12_rule_114 : decode cX12_rule 114 = .ok (.iload_n 2, 1) := by decide +kernel
theorem dX12_rule_115 : decode cX12_rule 115 = .ok (.new 177, 3) := by decide +kernel
theorem dX12_rule_118 : decode cX12_rule 118 = .ok (.dup, 1) := by decide +kernel
theorem dX12_rule_119 : decode cX12_rule 119 = .ok (.iload_n 3, 1) := by decide +kernel
theorem dX12_rule_120 : decode cX12_rule 120 = .ok (.aload_n 0, 1) := by decide +kernel
theorem dX12_rule_121 : decode cX12_rule 121 = .ok (.getfield 34, 3) := by decide +kernel
theorem dX12_rule_124 : decode cX12_rule 124 = .ok (.invokevirtual 179, 3) := by decide +kernel
theorem dX12_rule_127 : decode cX12_rule 127 = .ok (.aload_n 0, 1) := by decide +kernel
theorem dX12_rule_128 : decode cX12_rule 128 = .ok (.getfield 34, 3) := by decide +kernel
theorem dX12_rule_131 : decode cX12_rule 131 = .ok (.invokevirtual 183, 3) := by decide +kernel
theorem dX12_rule_134 : decode cX12_rule 134 = .ok (.aload 4, 2) := by decide +kernel
theorem dX12_rule_136 : decode cX12_rule 136 = .ok (.getfield 173, 3) := by decide +kernel
theorem dX12_rule_139 : decode cX12_rule 139 = .ok (.iload_n 2, 1) := by decide +kernel
theorem dX12_rule_140 : decode cX12_rule 140 = .ok (.aaload, 1) := by decide +kernel
theorem dX12_rule_141 : decode cX12_rule 141 = .ok (.invokespecial 186, 3) := by decide +kernel
theorem dX12_rule_144 : decode cX12_rule 144 = .ok (.aastore, 1) := by decide +kernel
theorem dX12_rule_145 : decode cX12_rule 145 = .ok (.aload_n 0, 1) := by decide +kernel
theorem dX12_rule_146 : decode cX12_rule 146 = .ok (.dup, 1) := by decide +kernel
theorem dX12_rule_147 : decode cX12_rule 147 = .ok (.getfield 164, 3) := by decide +kernel
theorem dX12_rule_150 : decode cX12_rule 150 = .ok (.iconst 1, 1) := by decide +kernel
theorem dX12_rule_151 : decode cX12_rule 151 = .ok (.iadd, 1) := by decide +kernel
theorem dX12_rule_152 : decode cX12_rule 152 = .ok (.putfield 164, 3) := by decide +kernel
theorem dX12_rule_155 : decode cX12_rule 155 = .ok (.aload_n 0, 1) := by decide +kernel
theorem dX12_rule_156 : decode cX12_rule 156 = .ok (.getfield 164, 3) := by decide +kernel
theorem dX12_rule_159 : decode cX12_rule 159 = .ok (.ireturn, 1) := by decide +kernel
set_option maxRecDepth 100000 in
set_option maxHeartbeats 4000000 in
theorem wp_X12_rule {n0 d : Nat} {K : z_K} {I : z_I} {L : z_L} {Q : z_R} {p0 : Int32} {p1 : Int32} {p2 : Int32} (hL : CLay K) (h : RM0 n0 xX12_pieceWith d [.ref (n0 + 0), .int p0, .int p1] K I L (fun vv I1 L2 => ∃ r3 : Option Nat, vv = some (zr n0 r3) ∧ ((r3 = none → RM0 n0 xX12_refuse d [.ref (n0 + 0), .int (-1)] K I1 L2 (fun vv I6 L7 => ∃ r8 : Int32, vv = some (.int r8) ∧ Q (some (.int r8)) K I6 L7)) ∧ (∀ q5, r3 = some q5 → q5 < K.1 ∧ (K.2.1 q5).1 = 5 ∧ (if ((I1 q5 4) : Int32) = 0 then RM0 n0 xX12_outside d [.int p2, .int (I1 0 0), .int 1000] K I1 L2 (fun vv I12 L13 => ∃ r14 : Int32, vv = some (.int r14) ∧ (if r14 = 0 then (if ((I12 0 9) : Int32) < 120 then RM0 n0 xX7_reads d [.ref (n0 + 5), .int p1] K I12 L13 (fun vv I17 L18 => ∃ r19 : Int32, vv = some (.int r19) ∧ (if r19 = 0 then Q (some (.int ((-20) - (I17 5 2)))) K (zI I17 5 1 0) L18 else (∃ q21, K.2.2 q5 5 = some q21 ∧ (∀ b25, K.1 = b25 → ∀ K22, K22 = zN K 6 0 → ∀ I23, I23 = zI0 (zI I17 5 1 0) b25 → ∀ L24, L24 = zL0 L18 b25 → CLay K22 ∧ RM n0 xX7_codeOfX d 1 60 [.ref (n0 + 5)] K22 I23 L24 (fun vv K29 I27 L28 => ∃ r30 : Nat, vv = some (.ref (n0 + r30)) ∧ CLay K29 ∧ RM n0 xX7_codeOfY d 1 60 [.ref (n0 + 5)] K29 I27 L28 (fun vv K34 I32 L33 => ∃ r35 : Nat, vv = some (.ref (n0 + r35)) ∧ CLay K34 ∧ q5 < K34.1 ∧ (K34.2.1 q5).1 = 5 ∧ (∃ q39, K34.2.2 q5 5 = some q39 ∧ ∃ n40, q39 < K34.1 ∧ K34.2.1 q39 = (36, n40) ∧ vp_in p1 n40 ∧ (∀ o44, K34.2.2 q39 p1.toNatClampNeg = o44 → RM n0 xX6_init d 0 0 [.ref (n0 + b25), .int p2, .ref (n0 + r30), .ref (n0 + r35), zr n0 o44] K34 I32 L33 (fun vv K47 I45 L46 => vv = none ∧ CLay K47 ∧ ∃ n49, q21 < K47.1 ∧ K47.2.1 q21 = (36, n49) ∧ vp_in p1 n49 ∧ b25 < K47.1 ∧ (K47.2.1 b25).1 = 6 ∧ Q (some (.int (((I45 0 9) + 1)))) (zR K47 q21 p1.toNatClampNeg (some b25)) (zI I45 0 9 ((I45 0 9) + 1)) L46))))))))) else RM0 n0 xX12_refuse d [.ref (n0 + 0), .int (-6)] K I12 L13 (fun vv I55 L56 => ∃ r57 : Int32, vv = some (.int r57) ∧ Q (some (.int r57)) K I55 L56)) else RM0 n0 xX12_refuse d [.ref (n0 + 0), .int r14] K I12 L13 (fun vv I58 L59 => ∃ r60 : Int32, vv = some (.int r60) ∧ Q (some (.int r60)) K I58 L59))) else RM0 n0 xX12_refuse d [.ref (n0 + 0), .int (-3)] K I1 L2 (fun vv I61 L62 => ∃ r63 : Int32, vv = some (.int r63) ∧ Q (some (.int r63)) K I61 L62)))))) : RM n0 xX12_rule (d + 1) 3 124 [.ref (n0 + 0), .int p0, .int p1, .int p2] K I L Q := by
  refine z_entry (by decide) (Nat.le_of_ble_eq_true rfl) ?_
  change Z n0 xX12_rule (d + 1) 3 124 0 [(0, .ref (n0 + 0)), (1, .int p0), (2, .int p1), (3, .int p2)] [] K I L Q
  refine z_aload_n 0 dX12_rule_0 rfl ?_
  refine z_iload_n 1 dX12_rule_1 rfl ?_
  refine z_iload_n 2 dX12_rule_2 rfl ?_
  refine z_callV0 (As := [.int p0, .int p1]) (st := []) dX12_rule_3 hy_X12_pieceWith (co_0 hL).1 (co_0 hL).2 (by decide) wg_655 wg_657 wg_6 (Nat.le_refl _) (Nat.le_of_ble_eq_true rfl) (RM0.mono h ?_)
  clear h
  intro vv I1 L2 h
  obtain ⟨r3, rfl, h⟩ := h
  change Z n0 xX12_rule (d + 1) 3 124 6 [(0, .ref (n0 + 0)), (1, .int p0), (2, .int p1), (3, .int p2)] [zr n0 r3] K I1 L2 Q
  refine z_astoreO [1, 2, 3, 4, 0] [(0, .ref (n0 + 0)), (1, .int p0), (2, .int p1), (3, .int p2), (4, zr n0 r3)] dX12_rule_6 (by decide) (fun v hv => by subst hv; rfl) ?_
  refine z_aloadO 4 dX12_rule_8 rfl ?_
  refine z_ifnonnull 19 dX12_rule_10 (by decide) (fun q5 g4 => ?_) (fun g4 => ?_)
  · replace h := h.2 q5 g4
    subst g4
    change Z n0 xX12_rule (d + 1) 3 124 19 [(0, .ref (n0 + 0)), (1, .int p0), (2, .int p1), (3, .int p2), (4, .ref (n0 + q5))] [] K I1 L2 Q
    refine z_aload 4 dX12_rule_19 rfl ?_
    obtain ⟨o9, o10, h⟩ := h
    refine fg_12_150 (I1 q5 4) rfl dX12_rule_21 o9 o10 rfl ?_
    refine z_if_eq 34 dX12_rule_24 (by decide) (fun g11 => ?_) (fun g11 => ?_)
    · rw [if_pos g11] at h
      refine z_iload_n 3 dX12_rule_34 rfl ?_
      refine z_aload_n 0 dX12_rule_35 rfl ?_
      refine fg_12_89 (I1 0 0) rfl dX12_rule_36 (co_0 hL).1 (co_0 hL).2 rfl ?_
      refine z_sipush 1000 dX12_rule_39 (by decide) ?_
      refine z_callS0 (As := [.int p2, .int (I1 0 0), .int 1000]) (st := []) dX12_rule_42 hy_X12_outside wg_476 wg_477 (Nat.le_refl _) (Nat.le_of_ble_eq_true rfl) (RM0.mono h ?_)
      clear h
      intro vv I12 L13 h
      obtain ⟨r14, rfl, h⟩ := h
      change Z n0 xX12_rule (d + 1) 3 124 45 [(0, .ref (n0 + 0)), (1, .int p0), (2, .int p1), (3, .int p2), (4, .ref (n0 + q5))] [.int r14] K I12 L13 Q
      refine z_istore [1, 2, 3, 4, 5, 0] [(0, .ref (n0 + 0)), (1, .int p0), (2, .int p1), (3, .int p2), (4, .ref (n0 + q5)), (5, .int r14)] dX12_rule_45 (by decide) rfl ?_
      refine z_iload 5 dX12_rule_47 rfl ?_
      refine z_if_eq 59 dX12_rule_49 (by decide) (fun g15 => ?_) (fun g15 => ?_)
      · rw [if_pos g15] at h
        refine z_aload_n 0 dX12_rule_59 rfl ?_
        refine fg_12_164 (I12 0 9) rfl dX12_rule_60 (co_0 hL).1 (co_0 hL).2 rfl ?_
        refine z_bipush 120 dX12_rule_63 (by decide) ?_
        refine z_icmp_lt 75 dX12_rule_65 (by decide) (fun g16 => ?_) (fun g16 => ?_)
        · rw [if_pos g16] at h
          refine z_aload_n 0 dX12_rule_75 rfl ?_
          refine fg_12_34 (some 5) rfl dX12_rule_76 (co_0 hL).1 (co_0 hL).2 (cp_5 hL) ?_
          refine z_iload_n 2 dX12_rule_79 rfl ?_
          refine z_callV0 (As := [.int p1]) (st := []) dX12_rule_80 hy_X7_reads (co_5 hL).1 (co_5 hL).2 (by decide) wg_663 wg_664 wg_665 (Nat.le_refl _) (Nat.le_of_ble_eq_true rfl) (RM0.mono h ?_)
          clear h
          intro vv I17 L18 h
          obtain ⟨r19, rfl, h⟩ := h
          change Z n0 xX12_rule (d + 1) 3 124 83 [(0, .ref (n0 + 0)), (1, .int p0), (2, .int p1), (3, .int p2), (4, .ref (n0 + q5)), (5, .int r14)] [.int r19] K I17 L18 Q
          refine z_istore [1, 2, 3, 4, 5, 6, 0] [(0, .ref (n0 + 0)), (1, .int p0), (2, .int p1), (3, .int p2), (4, .ref (n0 + q5)), (5, .int r14), (6, .int r19)] dX12_rule_83 (by decide) rfl ?_
          refine z_aload_n 0 dX12_rule_85 rfl ?_
          refine fg_12_34 (some 5) rfl dX12_rule_86 (co_0 hL).1 (co_0 hL).2 (cp_5 hL) ?_
          refine z_iconst 0 dX12_rule_89 (by decide) ?_
          refine fp_12_154 rfl dX12_rule_90 (co_5 hL).1 (co_5 hL).2 ?_
          refine z_iload 6 dX12_rule_93 rfl ?_
          refine z_if_ne 109 dX12_rule_95 (by decide) (fun g20 => ?_) (fun g20 => ?_)
          · rw [if_neg g20] at h
            refine z_aload 4 dX12_rule_109 rfl ?_
            obtain ⟨q21, q21e, h⟩ := h
            refine fg_12_173 (some q21) rfl dX12_rule_111 o9 o10 q21e ?_
            refine z_iload_n 2 dX12_rule_114 rfl ?_
            refine z_new (rc := 2) (rs := 120) (c := 6) dX12_rule_115 (by decide) wg_706 wg_707 wg_117 ?_
            obtain ⟨b25, b25e⟩ : ∃ b, K.1 = b := ⟨_, rfl⟩
            obtain ⟨K22, K22e⟩ : ∃ k, k = zN K 6 0 := ⟨_, rfl⟩
            obtain ⟨I23, I23e⟩ : ∃ k, k = zI0 (zI I17 5 1 0) b25 := ⟨_, rfl⟩
            obtain ⟨L24, L24e⟩ : ∃ k, k = zL0 L18 b25 := ⟨_, rfl⟩
            rw [b25e, ← K22e, ← I23e, ← L24e]
            replace h := h b25 b25e K22 K22e I23 I23e L24 L24e
            obtain ⟨hL26, h⟩ := h
            change Z n0 xX12_rule (d + 1) 2 120 118 [(0, .ref (n0 + 0)), (1, .int p0), (2, .int p1), (3, .int p2), (4, .ref (n0 + q5)), (5, .int r14), (6, .int r19)] [.ref (n0 + b25), .int p1, .ref (n0 + q21)] K22 I23 L24 Q
            refine z_dup dX12_rule_118 rfl ?_
            refine z_iload_n 3 dX12_rule_119 rfl ?_
            refine z_aload_n 0 dX12_rule_120 rfl ?_
            refine fg_12_34 (some 5) rfl dX12_rule_121 (co_0 hL26).1 (co_0 hL26).2 (cp_5 hL26) ?_
            refine z_callV (rc := 1) (rs := 60) (mc1 := 1) (ms1 := 60) (As := []) (st := [.int p2, .ref (n0 + b25), .ref (n0 + b25), .int p1, .ref (n0 + q21)]) dX12_rule_124 hy_X7_codeOfX (co_5 hL26).1 (co_5 hL26).2 (by decide) wg_708 wg_709 wg_710 (Nat.le_refl _) (Nat.le_of_ble_eq_true rfl) (RM.mono h ?_)
            clear h
            intro vv K29 I27 L28 h
            obtain ⟨r30, rfl, h⟩ := h
            obtain ⟨hL31, h⟩ := h
            change Z n0 xX12_rule (d + 1) 1 60 127 [(0, .ref (n0 + 0)), (1, .int p0), (2, .int p1), (3, .int p2), (4, .ref (n0 + q5)), (5, .int r14), (6, .int r19)] [.ref (n0 + r30), .int p2, .ref (n0 + b25), .ref (n0 + b25), .int p1, .ref (n0 + q21)] K29 I27 L28 Q
            refine z_aload_n 0 dX12_rule_127 rfl ?_
            refine fg_12_34 (some 5) rfl dX12_rule_128 (co_0 hL31).1 (co_0 hL31).2 (cp_5 hL31) ?_
            refine z_callV (rc := 0) (rs := 0) (mc1 := 1) (ms1 := 60) (As := []) (st := [.ref (n0 + r30), .int p2, .ref (n0 + b25), .ref (n0 + b25), .int p1, .ref (n0 + q21)]) dX12_rule_131 hy_X7_codeOfY (co_5 hL31).1 (co_5 hL31).2 (by decide) wg_729 wg_730 wg_731 (Nat.le_refl _) (Nat.le_of_ble_eq_true rfl) (RM.mono h ?_)
            clear h
            intro vv K34 I32 L33 h
            obtain ⟨r35, rfl, h⟩ := h
            obtain ⟨hL36, h⟩ := h
            change Z n0 xX12_rule (d + 1) 0 0 134 [(0, .ref (n0 + 0)), (1, .int p0), (2, .int p1), (3, .int p2), (4, .ref (n0 + q5)), (5, .int r14), (6, .int r19)] [.ref (n0 + r35), .ref (n0 + r30), .int p2, .ref (n0 + b25), .ref (n0 + b25), .int p1, .ref (n0 + q21)] K34 I32 L33 Q
            refine z_aload 4 dX12_rule_134 rfl ?_
            obtain ⟨o37, o38, h⟩ := h
            obtain ⟨q39, q39e, h⟩ := h
            refine fg_12_173 (some q39) rfl dX12_rule_136 o37 o38 q39e ?_
            refine z_iload_n 2 dX12_rule_139 rfl ?_
            obtain ⟨n40, o41, o42, o43, h⟩ := h
            obtain ⟨o44, o44e⟩ : ∃ o, K34.2.2 q39 p1.toNatClampNeg = o := ⟨_, rfl⟩
            replace h := h o44 o44e
            refine z_aald o44 dX12_rule_140 o41 o42 (by unfold z_rt; decide) o43 o44e ?_
            refine z_callI (rc := 0) (rs := 0) (mc1 := 0) (ms1 := 0) (As := [.int p2, .ref (n0 + r30), .ref (n0 + r35), zr n0 o44]) (st := [.ref (n0 + b25), .int p1, .ref (n0 + q21)]) dX12_rule_141 hy_X6_init rfl rfl wg_733 wg_734 (Nat.le_refl _) (Nat.le_of_ble_eq_true rfl) (RM.mono h ?_)
            clear h
            intro vv K47 I45 L46 h
            obtain ⟨rfl, h⟩ := h
            obtain ⟨hL48, h⟩ := h
            change Z n0 xX12_rule (d + 1) 0 0 144 [(0, .ref (n0 + 0)), (1, .int p0), (2, .int p1), (3, .int p2), (4, .ref (n0 + q5)), (5, .int r14), (6, .int r19)] [.ref (n0 + b25), .int p1, .ref (n0 + q21)] K47 I45 L46 Q
            obtain ⟨n49, o50, o51, o52, o53, o54, h⟩ := h
            refine z_aast (t := 36) dX12_rule_144 o50 o51 (by unfold z_rt; decide) o52 o53 o54 ?_
            refine z_aload_n 0 dX12_rule_145 rfl ?_
            refine z_dup dX12_rule_146 rfl ?_
            refine fg_12_164 (I45 0 9) rfl dX12_rule_147 (co_0 hL48).1 (co_0 hL48).2 rfl ?_
            refine z_iconst 1 dX12_rule_150 (by decide) ?_
            refine z_iadd dX12_rule_151 ?_
            refine fp_12_164 rfl dX12_rule_152 (co_0 hL48).1 (co_0 hL48).2 ?_
            refine z_aload_n 0 dX12_rule_155 rfl ?_
            refine fg_12_164 (((I45 0 9) + 1)) rfl dX12_rule_156 (co_0 hL48).1 (co_0 hL48).2 rfl ?_
            exact z_iret dX12_rule_159 rfl h
          · rw [if_pos g20] at h
            refine z_bipush (-20) dX12_rule_98 (by decide) ?_
            refine z_aload_n 0 dX12_rule_100 rfl ?_
            refine fg_12_34 (some 5) rfl dX12_rule_101 (co_0 hL).1 (co_0 hL).2 (cp_5 hL) ?_
            refine fg_12_170 (I17 5 2) rfl dX12_rule_104 (co_5 hL).1 (co_5 hL).2 rfl ?_
            refine z_isub dX12_rule_107 ?_
            exact z_iret dX12_rule_108 rfl h
        · rw [if_neg g16] at h
          refine z_aload_n 0 dX12_rule_68 rfl ?_
          refine z_bipush (-6) dX12_rule_69 (by decide) ?_
          refine z_callV0 (As := [.int (-6)]) (st := []) dX12_rule_71 hy_X12_refuse (co_0 hL).1 (co_0 hL).2 (by decide) wg_462 wg_464 wg_0 (Nat.le_refl _) (Nat.le_of_ble_eq_true rfl) (RM0.mono h ?_)
          clear h
          intro vv I55 L56 h
          obtain ⟨r57, rfl, h⟩ := h
          change Z n0 xX12_rule (d + 1) 3 124 74 [(0, .ref (n0 + 0)), (1, .int p0), (2, .int p1), (3, .int p2), (4, .ref (n0 + q5)), (5, .int r14)] [.int r57] K I55 L56 Q
          exact z_iret dX12_rule_74 rfl h
      · rw [if_neg g15] at h
        refine z_aload_n 0 dX12_rule_52 rfl ?_
        refine z_iload 5 dX12_rule_53 rfl ?_
        refine z_callV0 (As := [.int r14]) (st := []) dX12_rule_55 hy_X12_refuse (co_0 hL).1 (co_0 hL).2 (by decide) wg_462 wg_464 wg_0 (Nat.le_refl _) (Nat.le_of_ble_eq_true rfl) (RM0.mono h ?_)
        clear h
        intro vv I58 L59 h
        obtain ⟨r60, rfl, h⟩ := h
        change Z n0 xX12_rule (d + 1) 3 124 58 [(0, .ref (n0 + 0)), (1, .int p0), (2, .int p1), (3, .int p2), (4, .ref (n0 + q5)), (5, .int r14)] [.int r60] K I58 L59 Q
        exact z_iret dX12_rule_58 rfl h
    · rw [if_neg g11] at h
      refine z_aload_n 0 dX12_rule_27 rfl ?_
      refine z_bipush (-3) dX12_rule_28 (by decide) ?_
      refine z_callV0 (As := [.int (-3)]) (st := []) dX12_rule_30 hy_X12_refuse (co_0 hL).1 (co_0 hL).2 (by decide) wg_462 wg_464 wg_0 (Nat.le_refl _) (Nat.le_of_ble_eq_true rfl) (RM0.mono h ?_)
      clear h
      intro vv I61 L62 h
      obtain ⟨r63, rfl, h⟩ := h
      change Z n0 xX12_rule (d + 1) 3 124 33 [(0, .ref (n0 + 0)), (1, .int p0), (2, .int p1), (3, .int p2), (4, .ref (n0 + q5))] [.int r63] K I61 L62 Q
      exact z_iret dX12_rule_33 rfl h
  · replace h := h.1 g4
    subst g4
    change Z n0 xX12_rule (d + 1) 3 124 13 [(0, .ref (n0 + 0)), (1, .int p0), (2, .int p1), (3, .int p2), (4, .null)] [] K I1 L2 Q
    refine z_aload_n 0 dX12_rule_13 rfl ?_
    refine z_iconst (-1) dX12_rule_14 (by decide) ?_
    refine z_callV0 (As := [.int (-1)]) (st := []) dX12_rule_15 hy_X12_refuse (co_0 hL).1 (co_0 hL).2 (by decide) wg_462 wg_464 wg_0 (Nat.le_refl _) (Nat.le_of_ble_eq_true rfl) (RM0.mono h ?_)
    clear h
    intro vv I6 L7 h
    obtain ⟨r8, rfl, h⟩ := h
    change Z n0 xX12_rule (d + 1) 3 124 18 [(0, .ref (n0 + 0)), (1, .int p0), (2, .int p1), (3, .int p2), (4, .null)] [.int r8] K I6 L7 Q
    exact z_iret dX12_rule_18 rfl h
theorem dX12_quarrel_0 : decode cX12_quarrel 0 = .ok (.aload_n 0, 1) := by decide +kernel
theorem dX12_quarrel_1 : decode cX12_quarrel 1 = .ok (.iload_n 1, 1) := by decide +kernel
theorem dX12_quarrel_2 : decode cX12_quarrel 2 = .ok (.iload_n 2, 1) := by decide +kernel
theorem dX12_quarrel_3 : decode cX12_quarrel 3 = .ok (.invokevirtual 160, 3) := by decide +kernel
theorem dX12_quarrel_6 : decode cX12_quarrel 6 = .ok (.astore 4, 2) := by decide +kernel
theorem dX12_quarrel_8 : decode cX12_quarrel 8 = .ok (.aload 4, 2) := by decide +kernel
theorem dX12_quarrel_10 : decode cX12_quarrel 10 = .ok (.ifnonnull 9, 3) := by decide +kernel
theorem dX12_quarrel_13 : decode cX12_quarrel 13 = .ok (.aload_n 0, 1) := by decide +kernel
theorem dX12_quarrel_14 : decode cX12_quarrel 14 = .ok (.iconst (-1), 1) := by decide +kernel
theorem dX12_quarrel_15 : decode cX12_quarrel 15 = .ok (.invokevirtual 85, 3) := by decide +kernel
theorem dX12_quarrel_18 : decode cX12_quarrel 18 = .ok (.ireturn, 1) := by decide +kernel
theorem dX12_quarrel_19 : decode cX12_quarrel 19 = .ok (.iload_n 3, 1) := by decide +kernel
theorem dX12_quarrel_20 : decode cX12_quarrel 20 = .ok (.iconst 0, 1) := by decide +kernel
theorem dX12_quarrel_21 : decode cX12_quarrel 21 = .ok (.sipush 1000, 3) := by decide +kernel
theorem dX12_quarrel_24 : decode cX12_quarrel 24 = .ok (.invokestatic 100, 3) := by decide +kernel
theorem dX12_quarrel_27 : decode cX12_quarrel 27 = .ok (.istore 5, 2) := by decide +kernel
theorem dX12_quarrel_29 : decode cX12_quarrel 29 = .ok (.iload 5, 2) := by decide +kernel
theorem dX12_quarrel_31 : decode cX12_quarrel 31 = .ok (.ifCond .eq 10, 3) := by decide +kernel
theorem dX12_quarrel_34 : decode cX12_quarrel 34 = .ok (.aload_n 0, 1) := by decide +kernel
theorem dX12_quarrel_35 : decode cX12_quarrel 35 = .ok (.iload 5, 2) := by decide +kernel
theorem dX12_quarrel_37 : decode cX12_quarrel 37 = .ok (.invokevirtual 85, 3) := by decide +kernel
theorem dX12_quarrel_40 : decode cX12_quarrel 40 = .ok (.ireturn, 1) := by decide +kernel
theorem dX12_quarrel_41 : decode cX12_quarrel 41 = .ok (.aload 4, 2) := by decide +kernel
theorem dX12_quarrel_43 : decode cX12_quarrel 43 = .ok (.iload_n 2, 1) := by decide +kernel
theorem dX12_quarrel_44 : decode cX12_quarrel 44 = .ok (.iload_n 3, 1) := by decide +kernel
theorem dX12_quarrel_45 : decode cX12_quarrel 45 = .ok (.invokevirtual 189, 3) := by decide +kernel
theorem dX12_quarrel_48 : decode cX12_quarrel 48 = .ok (.ireturn, 1) := by decide +kernel
set_option maxRecDepth 100000 in
set_option maxHeartbeats 4000000 in
theorem wp_X12_quarrel {n0 d : Nat} {K : z_K} {I : z_I} {L : z_L} {Q : z_q} {p0 : Int32} {p1 : Int32} {p2 : Int32} (hL : CLay K) (h : RM0 n0 xX12_pieceWith d [.ref (n0 + 0), .int p0, .int p1] K I L (fun vv I1 L2 => ∃ r3 : Option Nat, vv = some (zr n0 r3) ∧ ((r3 = none → RM0 n0 xX12_refuse d [.ref (n0 + 0), .int (-1)] K I1 L2 (fun vv I6 L7 => ∃ r8 : Int32, vv = some (.int r8) ∧ Q (some (.int r8)) I6 L7)) ∧ (∀ q5, r3 = some q5 → RM0 n0 xX12_outside d [.int p2, .int 0, .int 1000] K I1 L2 (fun vv I9 L10 => ∃ r11 : Int32, vv = some (.int r11) ∧ (if r11 = 0 then q5 < K.1 ∧ (K.2.1 q5).1 = 5 ∧ RM0 n0 xX5_rulesAtOnce d [.ref (n0 + q5), .int p1, .int p2] K I9 L10 (fun vv I15 L16 => ∃ r17 : Int32, vv = some (.int r17) ∧ Q (some (.int r17)) I15 L16) else RM0 n0 xX12_refuse d [.ref (n0 + 0), .int r11] K I9 L10 (fun vv I18 L19 => ∃ r20 : Int32, vv = some (.int r20) ∧ Q (some (.int r20)) I18 L19))))))) : RM0 n0 xX12_quarrel (d + 1) [.ref (n0 + 0), .int p0, .int p1, .int p2] K I L Q := by
  refine z_entry0 (by decide) (Nat.le_of_ble_eq_true rfl) ?_
  change Z n0 xX12_quarrel (d + 1) 0 0 0 [(0, .ref (n0 + 0)), (1, .int p0), (2, .int p1), (3, .int p2)] [] K I L (z_q0 K Q)
  refine z_aload_n 0 dX12_quarrel_0 rfl ?_
  refine z_iload_n 1 dX12_quarrel_1 rfl ?_
  refine z_iload_n 2 dX12_quarrel_2 rfl ?_
  refine z_callV0 (As := [.int p0, .int p1]) (st := []) dX12_quarrel_3 hy_X12_pieceWith (co_0 hL).1 (co_0 hL).2 (by decide) wg_655 wg_657 wg_6 (Nat.le_refl _) (Nat.le_of_ble_eq_true rfl) (RM0.mono h ?_)
  clear h
  intro vv I1 L2 h
  obtain ⟨r3, rfl, h⟩ := h
  change Z n0 xX12_quarrel (d + 1) 0 0 6 [(0, .ref (n0 + 0)), (1, .int p0), (2, .int p1), (3, .int p2)] [zr n0 r3] K I1 L2 (z_q0 K Q)
  refine z_astoreO [1, 2, 3, 4, 0] [(0, .ref (n0 + 0)), (1, .int p0), (2, .int p1), (3, .int p2), (4, zr n0 r3)] dX12_quarrel_6 (by decide) (fun v hv => by subst hv; rfl) ?_
  refine z_aloadO 4 dX12_quarrel_8 rfl ?_
  refine z_ifnonnull 19 dX12_quarrel_10 (by decide) (fun q5 g4 => ?_) (fun g4 => ?_)
  · replace h := h.2 q5 g4
    subst g4
    change Z n0 xX12_quarrel (d + 1) 0 0 19 [(0, .ref (n0 + 0)), (1, .int p0), (2, .int p1), (3, .int p2), (4, .ref (n0 + q5))] [] K I1 L2 (z_q0 K Q)
    refine z_iload_n 3 dX12_quarrel_19 rfl ?_
    refine z_iconst 0 dX12_quarrel_20 (by decide) ?_
    refine z_sipush 1000 dX12_quarrel_21 (by decide) ?_
    refine z_callS0 (As := [.int p2, .int 0, .int 1000]) (st := []) dX12_quarrel_24 hy_X12_outside wg_476 wg_477 (Nat.le_refl _) (Nat.le_of_ble_eq_true rfl) (RM0.mono h ?_)
    clear h
    intro vv I9 L10 h
    obtain ⟨r11, rfl, h⟩ := h
    change Z n0 xX12_quarrel (d + 1) 0 0 27 [(0, .ref (n0 + 0)), (1, .int p0), (2, .int p1), (3, .int p2), (4, .ref (n0 + q5))] [.int r11] K I9 L10 (z_q0 K Q)
    refine z_istore [1, 2, 3, 4, 5, 0] [(0, .ref (n0 + 0)), (1, .int p0), (2, .int p1), (3, .int p2), (4, .ref (n0 + q5)), (5, .int r11)] dX12_quarrel_27 (by decide) rfl ?_
    refine z_iload 5 dX12_quarrel_29 rfl ?_
    refine z_if_eq 41 dX12_quarrel_31 (by decide) (fun g12 => ?_) (fun g12 => ?_)
    · rw [if_pos g12] at h
      refine z_aload 4 dX12_quarrel_41 rfl ?_
      refine z_iload_n 2 dX12_quarrel_43 rfl ?_
      refine z_iload_n 3 dX12_quarrel_44 rfl ?_
      obtain ⟨o13, o14, h⟩ := h
      refine z_callV0 (As := [.int p1, .int p2]) (st := []) dX12_quarrel_45 hy_X5_rulesAtOnce o13 o14 (by decide) wg_758 wg_759 wg_760 (Nat.le_refl _) (Nat.le_of_ble_eq_true rfl) (RM0.mono h ?_)
      clear h
      intro vv I15 L16 h
      obtain ⟨r17, rfl, h⟩ := h
      change Z n0 xX12_quarrel (d + 1) 0 0 48 [(0, .ref (n0 + 0)), (1, .int p0), (2, .int p1), (3, .int p2), (4, .ref (n0 + q5)), (5, .int r11)] [.int r17] K I15 L16 (z_q0 K Q)
      exact z_iret dX12_quarrel_48 rfl ⟨rfl, h⟩
    · rw [if_neg g12] at h
      refine z_aload_n 0 dX12_quarrel_34 rfl ?_
      refine z_iload 5 dX12_quarrel_35 rfl ?_
      refine z_callV0 (As := [.int r11]) (st := []) dX12_quarrel_37 hy_X12_refuse (co_0 hL).1 (co_0 hL).2 (by decide) wg_462 wg_464 wg_0 (Nat.le_refl _) (Nat.le_of_ble_eq_true rfl) (RM0.mono h ?_)
      clear h
      intro vv I18 L19 h
      obtain ⟨r20, rfl, h⟩ := h
      change Z n0 xX12_quarrel (d + 1) 0 0 40 [(0, .ref (n0 + 0)), (1, .int p0), (2, .int p1), (3, .int p2), (4, .ref (n0 + q5)), (5, .int r11)] [.int r20] K I18 L19 (z_q0 K Q)
      exact z_iret dX12_quarrel_40 rfl ⟨rfl, h⟩
  · replace h := h.1 g4
    subst g4
    change Z n0 xX12_quarrel (d + 1) 0 0 13 [(0, .ref (n0 + 0)), (1, .int p0), (2, .int p1), (3, .int p2), (4, .null)] [] K I1 L2 (z_q0 K Q)
    refine z_aload_n 0 dX12_quarrel_13 rfl ?_
    refine z_iconst (-1) dX12_quarrel_14 (by decide) ?_
    refine z_callV0 (As := [.int (-1)]) (st := []) dX12_quarrel_15 hy_X12_refuse (co_0 hL).1 (co_0 hL).2 (by decide) wg_462 wg_464 wg_0 (Nat.le_refl _) (Nat.le_of_ble_eq_true rfl) (RM0.mono h ?_)
    clear h
    intro vv I6 L7 h
    obtain ⟨r8, rfl, h⟩ := h
    change Z n0 xX12_quarrel (d + 1) 0 0 18 [(0, .ref (n0 + 0)), (1, .int p0), (2, .int p1), (3, .int p2), (4, .null)] [.int r8] K I6 L7 (z_q0 K Q)
    exact z_iret dX12_quarrel_18 rfl ⟨rfl, h⟩
theorem dX12_from_0 : decode cX12_from 0 = .ok (.aload_n 0, 1) := by decide +kernel
theorem dX12_from_1 : decode cX12_from 1 = .ok (.iload_n 1, 1) := by decide +kernel
theorem dX12_from_2 : decode cX12_from 2 = .ok (.iload_n 2, 1) := by decide +kernel
theorem dX12_from_3 : decode cX12_from 3 = .ok (.invokevirtual 160, 3) := by decide +kernel
theorem dX12_from_6 : decode cX12_from 6 = .ok (.astore 4, 2) := by decide +kernel
theorem dX12_from_8 : decode cX12_from 8 = .ok (.aload 4, 2) := by decide +kernel
theorem dX12_from_10 : decode cX12_from 10 = .ok (.ifnonnull 9, 3) := by decide +kernel
theorem dX12_from_13 : decode cX12_from 13 = .ok (.aload_n 0, 1) := by decide +kernel
theorem dX12_from_14 : decode cX12_from 14 = .ok (.iconst (-1), 1) := by decide +kernel
theorem dX12_from_15 : decode cX12_from 15 = .ok (.invokevirtual 85, 3) := by decide +kernel
theorem dX12_from_18 : decode cX12_from 18 = .ok (.ireturn, 1) := by decide +kernel
theorem dX12_from_19 : decode cX12_from 19 = .ok (.iload_n 3, 1) := by decide +kernel
theorem dX12_from_20 : decode cX12_from 20 = .ok (.iconst 0, 1) := by decide +kernel
theorem dX12_from_21 : decode cX12_from 21 = .ok (.sipush 1000, 3) := by decide +kernel
theorem dX12_from_24 : decode cX12_from 24 = .ok (.invokestatic 100, 3) := by decide +kernel
theorem dX12_from_27 : decode cX12_from 27 = .ok (.istore 5, 2) := by decide +kernel
theorem dX12_from_29 : decode cX12_from 29 = .ok (.iload 5, 2) := by decide +kernel
theorem dX12_from_31 : decode cX12_from 31 = .ok (.ifCond .eq 10, 3) := by decide +kernel
theorem dX12_from_34 : decode cX12_from 34 = .ok (.aload_n 0, 1) := by decide +kernel
theorem dX12_from_35 : decode cX12_from 35 = .ok (.iload 5, 2) := by decide +kernel
theorem dX12_from_37 : decode cX12_from 37 = .ok (.invokevirtual 85, 3) := by decide +kernel
theorem dX12_from_40 : decode cX12_from 40 = .ok (.ireturn, 1) := by decide +kernel
theorem dX12_from_41 : decode cX12_from 41 = .ok (.aload_n 0, 1) := by decide +kernel
theorem dX12_from_42 : decode cX12_from 42 = .ok (.getfield 41, 3) := by decide +kernel
theorem dX12_from_45 : decode cX12_from 45 = .ok (.aload 4, 2) := by decide +kernel
theorem dX12_from_47 : decode cX12_from 47 = .ok (.iload_n 2, 1) := by decide +kernel
theorem dX12_from_48 : decode cX12_from 48 = .ok (.iload_n 3, 1) := by decide +kernel
theorem dX12_from_49 : decode cX12_from 49 = .ok (.invokevirtual 193, 3) := by decide +kernel
theorem dX12_from_52 : decode cX12_from 52 = .ok (.ireturn, 1) := by decide +kernel
set_option maxRecDepth 100000 in
set_option maxHeartbeats 4000000 in
theorem wp_X12_from {n0 d : Nat} {K : z_K} {I : z_I} {L : z_L} {Q : z_R} {p0 : Int32} {p1 : Int32} {p2 : Int32} (hL : CLay K) (h : RM0 n0 xX12_pieceWith d [.ref (n0 + 0), .int p0, .int p1] K I L (fun vv I1 L2 => ∃ r3 : Option Nat, vv = some (zr n0 r3) ∧ ((r3 = none → RM0 n0 xX12_refuse d [.ref (n0 + 0), .int (-1)] K I1 L2 (fun vv I6 L7 => ∃ r8 : Int32, vv = some (.int r8) ∧ Q (some (.int r8)) K I6 L7)) ∧ (∀ q5, r3 = some q5 → RM0 n0 xX12_outside d [.int p2, .int 0, .int 1000] K I1 L2 (fun vv I9 L10 => ∃ r11 : Int32, vv = some (.int r11) ∧ (if r11 = 0 then RM n0 xX2_comesFrom d 0 0 [.ref (n0 + 8), .ref (n0 + q5), .int p1, .int p2] K I9 L10 (fun vv K15 I13 L14 => ∃ r16 : Int32, vv = some (.int r16) ∧ CLay K15 ∧ Q (some (.int r16)) K15 I13 L14) else RM0 n0 xX12_refuse d [.ref (n0 + 0), .int r11] K I9 L10 (fun vv I18 L19 => ∃ r20 : Int32, vv = some (.int r20) ∧ Q (some (.int r20)) K I18 L19))))))) : RM n0 xX12_from (d + 1) 0 0 [.ref (n0 + 0), .int p0, .int p1, .int p2] K I L Q := by
  refine z_entry (by decide) (Nat.le_of_ble_eq_true rfl) ?_
  change Z n0 xX12_from (d + 1) 0 0 0 [(0, .ref (n0 + 0)), (1, .int p0), (2, .int p1), (3, .int p2)] [] K I L Q
  refine z_aload_n 0 dX12_from_0 rfl ?_
  refine z_iload_n 1 dX12_from_1 rfl ?_
  refine z_iload_n 2 dX12_from_2 rfl ?_
  refine z_callV0 (As := [.int p0, .int p1]) (st := []) dX12_from_3 hy_X12_pieceWith (co_0 hL).1 (co_0 hL).2 (by decide) wg_655 wg_657 wg_6 (Nat.le_refl _) (Nat.le_of_ble_eq_true rfl) (RM0.mono h ?_)
  clear h
  intro vv I1 L2 h
  obtain ⟨r3, rfl, h⟩ := h
  change Z n0 xX12_from (d + 1) 0 0 6 [(0, .ref (n0 + 0)), (1, .int p0), (2, .int p1), (3, .int p2)] [zr n0 r3] K I1 L2 Q
  refine z_astoreO [1, 2, 3, 4, 0] [(0, .ref (n0 + 0)), (1, .int p0), (2, .int p1), (3, .int p2), (4, zr n0 r3)] dX12_from_6 (by decide) (fun v hv => by subst hv; rfl) ?_
  refine z_aloadO 4 dX12_from_8 rfl ?_
  refine z_ifnonnull 19 dX12_from_10 (by decide) (fun q5 g4 => ?_) (fun g4 => ?_)
  · replace h := h.2 q5 g4
    subst g4
    change Z n0 xX12_from (d + 1) 0 0 19 [(0, .ref (n0 + 0)), (1, .int p0), (2, .int p1), (3, .int p2), (4, .ref (n0 + q5))] [] K I1 L2 Q
    refine z_iload_n 3 dX12_from_19 rfl ?_
    refine z_iconst 0 dX12_from_20 (by decide) ?_
    refine z_sipush 1000 dX12_from_21 (by decide) ?_
    refine z_callS0 (As := [.int p2, .int 0, .int 1000]) (st := []) dX12_from_24 hy_X12_outside wg_476 wg_477 (Nat.le_refl _) (Nat.le_of_ble_eq_true rfl) (RM0.mono h ?_)
    clear h
    intro vv I9 L10 h
    obtain ⟨r11, rfl, h⟩ := h
    change Z n0 xX12_from (d + 1) 0 0 27 [(0, .ref (n0 + 0)), (1, .int p0), (2, .int p1), (3, .int p2), (4, .ref (n0 + q5))] [.int r11] K I9 L10 Q
    refine z_istore [1, 2, 3, 4, 5, 0] [(0, .ref (n0 + 0)), (1, .int p0), (2, .int p1), (3, .int p2), (4, .ref (n0 + q5)), (5, .int r11)] dX12_from_27 (by decide) rfl ?_
    refine z_iload 5 dX12_from_29 rfl ?_
    refine z_if_eq 41 dX12_from_31 (by decide) (fun g12 => ?_) (fun g12 => ?_)
    · rw [if_pos g12] at h
      refine z_aload_n 0 dX12_from_41 rfl ?_
      refine fg_12_41 (some 8) rfl dX12_from_42 (co_0 hL).1 (co_0 hL).2 (cp_8 hL) ?_
      refine z_aload 4 dX12_from_45 rfl ?_
      refine z_iload_n 2 dX12_from_47 rfl ?_
      refine z_iload_n 3 dX12_from_48 rfl ?_
      refine z_callV (rc := 0) (rs := 0) (mc1 := 0) (ms1 := 0) (As := [.ref (n0 + q5), .int p1, .int p2]) (st := []) dX12_from_49 hy_X2_comesFrom (co_8 hL).1 (co_8 hL).2 (by decide) wg_770 wg_771 wg_772 (Nat.le_refl _) (Nat.le_of_ble_eq_true rfl) (RM.mono h ?_)
      clear h
      intro vv K15 I13 L14 h
      obtain ⟨r16, rfl, h⟩ := h
      obtain ⟨hL17, h⟩ := h
      change Z n0 xX12_from (d + 1) 0 0 52 [(0, .ref (n0 + 0)), (1, .int p0), (2, .int p1), (3, .int p2), (4, .ref (n0 + q5)), (5, .int r11)] [.int r16] K15 I13 L14 Q
      exact z_iret dX12_from_52 rfl h
    · rw [if_neg g12] at h
      refine z_aload_n 0 dX12_from_34 rfl ?_
      refine z_iload 5 dX12_from_35 rfl ?_
      refine z_callV0 (As := [.int r11]) (st := []) dX12_from_37 hy_X12_refuse (co_0 hL).1 (co_0 hL).2 (by decide) wg_462 wg_464 wg_0 (Nat.le_refl _) (Nat.le_of_ble_eq_true rfl) (RM0.mono h ?_)
      clear h
      intro vv I18 L19 h
      obtain ⟨r20, rfl, h⟩ := h
      change Z n0 xX12_from (d + 1) 0 0 40 [(0, .ref (n0 + 0)), (1, .int p0), (2, .int p1), (3, .int p2), (4, .ref (n0 + q5)), (5, .int r11)] [.int r20] K I18 L19 Q
      exact z_iret dX12_from_40 rfl h
  · replace h := h.1 g4
    subst g4
    change Z n0 xX12_from (d + 1) 0 0 13 [(0, .ref (n0 + 0)), (1, .int p0), (2, .int p1), (3, .int p2), (4, .null)] [] K I1 L2 Q
    refine z_aload_n 0 dX12_from_13 rfl ?_
    refine z_iconst (-1) dX12_from_14 (by decide) ?_
    refine z_callV0 (As := [.int (-1)]) (st := []) dX12_from_15 hy_X12_refuse (co_0 hL).1 (co_0 hL).2 (by decide) wg_462 wg_464 wg_0 (Nat.le_refl _) (Nat.le_of_ble_eq_true rfl) (RM0.mono h ?_)
    clear h
    intro vv I6 L7 h
    obtain ⟨r8, rfl, h⟩ := h
    change Z n0 xX12_from (d + 1) 0 0 18 [(0, .ref (n0 + 0)), (1, .int p0), (2, .int p1), (3, .int p2), (4, .null)] [.int r8] K I6 L7 Q
    exact z_iret dX12_from_18 rfl h
theorem dX12_grade_0 : decode cX12_grade 0 = .ok (.aload_n 0, 1) := by decide +kernel
theorem dX12_grade_1 : decode cX12_grade 1 = .ok (.iload_n 1, 1) := by decide +kernel
theorem dX12_grade_2 : decode cX12_grade 2 = .ok (.iload_n 2, 1) := by decide +kernel
theorem dX12_grade_3 : decode cX12_grade 3 = .ok (.invokevirtual 160, 3) := by decide +kernel
theorem dX12_grade_6 : decode cX12_grade 6 = .ok (.astore 5, 2) := by decide +kernel
theorem dX12_grade_8 : decode cX12_grade 8 = .ok (.aload 5, 2) := by decide +kernel
theorem dX12_grade_10 : decode cX12_grade 10 = .ok (.ifnonnull 9, 3) := by decide +kernel
theorem dX12_grade_13 : decode cX12_grade 13 = .ok (.aload_n 0, 1) := by decide +kernel
theorem dX12_grade_14 : decode cX12_grade 14 = .ok (.iconst (-1), 1) := by decide +kernel
theorem dX12_grade_15 : decode cX12_grade 15 = .ok (.invokevirtual 85, 3) := by decide +kernel
theorem dX12_grade_18 : decode cX12_grade 18 = .ok (.ireturn, 1) := by decide +kernel
theorem dX12_grade_19 : decode cX12_grade 19 = .ok (.iload_n 3, 1) := by decide +kernel
theorem dX12_grade_20 : decode cX12_grade 20 = .ok (.iload 4, 2) := by decide +kernel
theorem dX12_grade_22 : decode cX12_grade 22 = .ok (.bipush (-99), 2) := by decide +kernel
theorem dX12_grade_24 : decode cX12_grade 24 = .ok (.bipush 99, 2) := by decide +kernel
theorem dX12_grade_26 : decode cX12_grade 26 = .ok (.invokestatic 197, 3) := by decide +kernel
theorem dX12_grade_29 : decode cX12_grade 29 = .ok (.istore 6, 2) := by decide +kernel
theorem dX12_grade_31 : decode cX12_grade 31 = .ok (.iload 6, 2) := by decide +kernel
theorem dX12_grade_33 : decode cX12_grade 33 = .ok (.ifCond .eq 10, 3) := by decide +kernel
theorem dX12_grade_36 : decode cX12_grade 36 = .ok (.aload_n 0, 1) := by decide +kernel
theorem dX12_grade_37 : decode cX12_grade 37 = .ok (.iload 6, 2) := by decide +kernel
theorem dX12_grade_39 : decode cX12_grade 39 = .ok (.invokevirtual 85, 3) := by decide +kernel
theorem dX12_grade_42 : decode cX12_grade 42 = .ok (.ireturn, 1) := by decide +kernel
theorem dX12_grade_43 : decode cX12_grade 43 = .ok (.aload 5, 2) := by decide +kernel
theorem dX12_grade_45 : decode cX12_grade 45 = .ok (.getfield 201, 3) := by decide +kernel
theorem dX12_grade_48 : decode cX12_grade 48 = .ok (.iload_n 2, 1) := by decide +kernel
theorem dX12_grade_49 : decode cX12_grade 49 = .ok (.iload_n 3, 1) := by decide +kernel
theorem dX12_grade_50 : decode cX12_grade 50 = .ok (.iastore, 1) := by decide +kernel
theorem dX12_grade_51 : decode cX12_grade 51 = .ok (.aload 5, 2) := by decide +kernel
theorem dX12_grade_53 : decode cX12_grade 53 = .ok (.getfield 204, 3) := by decide +kernel
theorem dX12_grade_56 : decode cX12_grade 56 = .ok (.iload_n 2, 1) := by decide +kernel
theorem dX12_grade_57 : decode cX12_grade 57 = .ok (.iload 4, 2) := by decide +kernel
theorem dX12_grade_59 : decode cX12_grade 59 = .ok (.iastore, 1) := by decide +kernel
theorem dX12_grade_60 : decode cX12_grade 60 = .ok (.iconst 1, 1) := by decide +kernel
theorem dX12_grade_61 : decode cX12_grade 61 = .ok (.ireturn, 1) := by decide +kernel
set_option maxRecDepth 100000 in
set_option maxHeartbeats 4000000 in
theorem wp_X12_grade {n0 d : Nat} {K : z_K} {I : z_I} {L : z_L} {Q : z_q} {p0 : Int32} {p1 : Int32} {p2 : Int32} {p3 : Int32} (hL : CLay K) (h : RM0 n0 xX12_pieceWith d [.ref (n0 + 0), .int p0, .int p1] K I L (fun vv I1 L2 => ∃ r3 : Option Nat, vv = some (zr n0 r3) ∧ ((r3 = none → RM0 n0 xX12_refuse d [.ref (n0 + 0), .int (-1)] K I1 L2 (fun vv I6 L7 => ∃ r8 : Int32, vv = some (.int r8) ∧ Q (some (.int r8)) I6 L7)) ∧ (∀ q5, r3 = some q5 → RM0 n0 xX12_bothOutside d [.int p2, .int p3, .int (-99), .int 99] K I1 L2 (fun vv I9 L10 => ∃ r11 : Int32, vv = some (.int r11) ∧ (if r11 = 0 then q5 < K.1 ∧ (K.2.1 q5).1 = 5 ∧ (∃ q15, K.2.2 q5 6 = some q15 ∧ ∃ n16, q15 < K.1 ∧ K.2.1 q15 = (20, n16) ∧ vp_in p1 n16 ∧ (∃ q20, K.2.2 q5 7 = some q20 ∧ ∃ n21, q20 < K.1 ∧ K.2.1 q20 = (20, n21) ∧ vp_in p1 n21 ∧ Q (some (.int 1)) (zI (zI I9 q15 p1.toNatClampNeg p2) q20 p1.toNatClampNeg p3) L10)) else RM0 n0 xX12_refuse d [.ref (n0 + 0), .int r11] K I9 L10 (fun vv I25 L26 => ∃ r27 : Int32, vv = some (.int r27) ∧ Q (some (.int r27)) I25 L26))))))) : RM0 n0 xX12_grade (d + 1) [.ref (n0 + 0), .int p0, .int p1, .int p2, .int p3] K I L Q := by
  refine z_entry0 (by decide) (Nat.le_of_ble_eq_true rfl) ?_
  change Z n0 xX12_grade (d + 1) 0 0 0 [(0, .ref (n0 + 0)), (1, .int p0), (2, .int p1), (3, .int p2), (4, .int p3)] [] K I L (z_q0 K Q)
  refine z_aload_n 0 dX12_grade_0 rfl ?_
  refine z_iload_n 1 dX12_grade_1 rfl ?_
  refine z_iload_n 2 dX12_grade_2 rfl ?_
  refine z_callV0 (As := [.int p0, .int p1]) (st := []) dX12_grade_3 hy_X12_pieceWith (co_0 hL).1 (co_0 hL).2 (by decide) wg_655 wg_657 wg_6 (Nat.le_refl _) (Nat.le_of_ble_eq_true rfl) (RM0.mono h ?_)
  clear h
  intro vv I1 L2 h
  obtain ⟨r3, rfl, h⟩ := h
  change Z n0 xX12_grade (d + 1) 0 0 6 [(0, .ref (n0 + 0)), (1, .int p0), (2, .int p1), (3, .int p2), (4, .int p3)] [zr n0 r3] K I1 L2 (z_q0 K Q)
  refine z_astoreO [1, 2, 3, 4, 5, 0] [(0, .ref (n0 + 0)), (1, .int p0), (2, .int p1), (3, .int p2), (4, .int p3), (5, zr n0 r3)] dX12_grade_6 (by decide) (fun v hv => by subst hv; rfl) ?_
  refine z_aloadO 5 dX12_grade_8 rfl ?_
  refine z_ifnonnull 19 dX12_grade_10 (by decide) (fun q5 g4 => ?_) (fun g4 => ?_)
  · replace h := h.2 q5 g4
    subst g4
    change Z n0 xX12_grade (d + 1) 0 0 19 [(0, .ref (n0 + 0)), (1, .int p0), (2, .int p1), (3, .int p2), (4, .int p3), (5, .ref (n0 + q5))] [] K I1 L2 (z_q0 K Q)
    refine z_iload_n 3 dX12_grade_19 rfl ?_
    refine z_iload 4 dX12_grade_20 rfl ?_
    refine z_bipush (-99) dX12_grade_22 (by decide) ?_
    refine z_bipush 99 dX12_grade_24 (by decide) ?_
    refine z_callS0 (As := [.int p2, .int p3, .int (-99), .int 99]) (st := []) dX12_grade_26 hy_X12_bothOutside wg_793 wg_794 (Nat.le_refl _) (Nat.le_of_ble_eq_true rfl) (RM0.mono h ?_)
    clear h
    intro vv I9 L10 h
    obtain ⟨r11, rfl, h⟩ := h
    change Z n0 xX12_grade (d + 1) 0 0 29 [(0, .ref (n0 + 0)), (1, .int p0), (2, .int p1), (3, .int p2), (4, .int p3), (5, .ref (n0 + q5))] [.int r11] K I9 L10 (z_q0 K Q)
    refine z_istore [1, 2, 3, 4, 5, 6, 0] [(0, .ref (n0 + 0)), (1, .int p0), (2, .int p1), (3, .int p2), (4, .int p3), (5, .ref (n0 + q5)), (6, .int r11)] dX12_grade_29 (by decide) rfl ?_
    refine z_iload 6 dX12_grade_31 rfl ?_
    refine z_if_eq 43 dX12_grade_33 (by decide) (fun g12 => ?_) (fun g12 => ?_)
    · rw [if_pos g12] at h
      refine z_aload 5 dX12_grade_43 rfl ?_
      obtain ⟨o13, o14, h⟩ := h
      obtain ⟨q15, q15e, h⟩ := h
      refine fg_12_201 (some q15) rfl dX12_grade_45 o13 o14 q15e ?_
      refine z_iload_n 2 dX12_grade_48 rfl ?_
      refine z_iload_n 3 dX12_grade_49 rfl ?_
      obtain ⟨n16, o17, o18, o19, h⟩ := h
      refine z_iast dX12_grade_50 o17 o18 o19 ?_
      refine z_aload 5 dX12_grade_51 rfl ?_
      obtain ⟨q20, q20e, h⟩ := h
      refine fg_12_204 (some q20) rfl dX12_grade_53 o13 o14 q20e ?_
      refine z_iload_n 2 dX12_grade_56 rfl ?_
      refine z_iload 4 dX12_grade_57 rfl ?_
      obtain ⟨n21, o22, o23, o24, h⟩ := h
      refine z_iast dX12_grade_59 o22 o23 o24 ?_
      refine z_iconst 1 dX12_grade_60 (by decide) ?_
      exact z_iret dX12_grade_61 rfl ⟨rfl, h⟩
    · rw [if_neg g12] at h
      refine z_aload_n 0 dX12_grade_36 rfl ?_
      refine z_iload 6 dX12_grade_37 rfl ?_
      refine z_callV0 (As := [.int r11]) (st := []) dX12_grade_39 hy_X12_refuse (co_0 hL).1 (co_0 hL).2 (by decide) wg_462 wg_464 wg_0 (Nat.le_refl _) (Nat.le_of_ble_eq_true rfl) (RM0.mono h ?_)
      clear h
      intro vv I25 L26 h
      obtain ⟨r27, rfl, h⟩ := h
      change Z n0 xX12_grade (d + 1) 0 0 42 [(0, .ref (n0 + 0)), (1, .int p0), (2, .int p1), (3, .int p2), (4, .int p3), (5, .ref (n0 + q5)), (6, .int r11)] [.int r27] K I25 L26 (z_q0 K Q)
      exact z_iret dX12_grade_42 rfl ⟨rfl, h⟩
  · replace h := h.1 g4
    subst g4
    change Z n0 xX12_grade (d + 1) 0 0 13 [(0, .ref (n0 + 0)), (1, .int p0), (2, .int p1), (3, .int p2), (4, .int p3), (5, .null)] [] K I1 L2 (z_q0 K Q)
    refine z_aload_n 0 dX12_grade_13 rfl ?_
    refine z_iconst (-1) dX12_grade_14 (by decide) ?_
    refine z_callV0 (As := [.int (-1)]) (st := []) dX12_grade_15 hy_X12_refuse (co_0 hL).1 (co_0 hL).2 (by decide) wg_462 wg_464 wg_0 (Nat.le_refl _) (Nat.le_of_ble_eq_true rfl) (RM0.mono h ?_)
    clear h
    intro vv I6 L7 h
    obtain ⟨r8, rfl, h⟩ := h
    change Z n0 xX12_grade (d + 1) 0 0 18 [(0, .ref (n0 + 0)), (1, .int p0), (2, .int p1), (3, .int p2), (4, .int p3), (5, .null)] [.int r8] K I6 L7 (z_q0 K Q)
    exact z_iret dX12_grade_18 rfl ⟨rfl, h⟩
