theorem dX0_alteredSpot_0 : decode cX0_alteredSpot 0 = .ok (.iload_n 1, 1) := by decide +kernel
theorem dX0_alteredSpot_1 : decode cX0_alteredSpot 1 = .ok (.bipush 10, 2) := by decide +kernel
theorem dX0_alteredSpot_3 : decode cX0_alteredSpot 3 = .ok (.imul, 1) := by decide +kernel
theorem dX0_alteredSpot_4 : decode cX0_alteredSpot 4 = .ok (.iload_n 2, 1) := by decide +kernel
theorem dX0_alteredSpot_5 : decode cX0_alteredSpot 5 = .ok (.iadd, 1) := by decide +kernel
theorem dX0_alteredSpot_6 : decode cX0_alteredSpot 6 = .ok (.istore_n 3, 1) := by decide +kernel
theorem dX0_alteredSpot_7 : decode cX0_alteredSpot 7 = .ok (.iconst 0, 1) := by decide +kernel
theorem dX0_alteredSpot_8 : decode cX0_alteredSpot 8 = .ok (.istore 4, 2) := by decide +kernel
theorem dX0_alteredSpot_10 : decode cX0_alteredSpot 10 = .ok (.iload 4, 2) := by decide +kernel
theorem dX0_alteredSpot_12 : decode cX0_alteredSpot 12 = .ok (.aload_n 0, 1) := by decide +kernel
theorem dX0_alteredSpot_13 : decode cX0_alteredSpot 13 = .ok (.getfield 37, 3) := by decide +kernel
theorem dX0_alteredSpot_16 : decode cX0_alteredSpot 16 = .ok (.if_icmp .ge 23, 3) := by decide +kernel
theorem dX0_alteredSpot_19 : decode cX0_alteredSpot 19 = .ok (.aload_n 0, 1) := by decide +kernel
theorem dX0_alteredSpot_20 : decode cX0_alteredSpot 20 = .ok (.getfield 15, 3) := by decide +kernel
theorem dX0_alteredSpot_23 : decode cX0_alteredSpot 23 = .ok (.iload 4, 2) := by decide +kernel
theorem dX0_alteredSpot_25 : decode cX0_alteredSpot 25 = .ok (.iaload, 1) := by decide +kernel
theorem dX0_alteredSpot_26 : decode cX0_alteredSpot 26 = .ok (.iload_n 3, 1) := by decide +kernel
theorem dX0_alteredSpot_27 : decode cX0_alteredSpot 27 = .ok (.if_icmp .ne 6, 3) := by decide +kernel
theorem dX0_alteredSpot_30 : decode cX0_alteredSpot 30 = .ok (.iload 4, 2) := by decide +kernel
theorem dX0_alteredSpot_32 : decode cX0_alteredSpot 32 = .ok (.ireturn, 1) := by decide +kernel
theorem dX0_alteredSpot_33 : decode cX0_alteredSpot 33 = .ok (.iinc 4 1, 3) := by decide +kernel
theorem dX0_alteredSpot_36 : decode cX0_alteredSpot 36 = .ok (.goto (-26), 3) := by decide +kernel
theorem dX0_alteredSpot_39 : decode cX0_alteredSpot 39 = .ok (.aload_n 0, 1) := by decide +kernel
theorem dX0_alteredSpot_40 : decode cX0_alteredSpot 40 = .ok (.getfield 37, 3) := by decide +kernel
theorem dX0_alteredSpot_43 : decode cX0_alteredSpot 43 = .ok (.ireturn, 1) := by decide +kernel
set_option maxRecDepth 100000 in
set_option maxHeartbeats 4000000 in
theorem wp_X0_alteredSpot {n0 d : Nat} {K : z_K} {I : z_I} {L : z_L} {Q : z_q} {o0 : Nat} {p0 : Int32} {p1 : Int32} (h : Z n0 xX0_alteredSpot d 0 0 10 [(0, .ref (n0 + o0)), (3, .int ((p0 * 10) + p1)), (4, .int 0)] [] K I L (z_q0 K Q)) : RM0 n0 xX0_alteredSpot d [.ref (n0 + o0), .int p0, .int p1] K I L Q := by
  refine z_entry0 (by decide) (Nat.le_of_ble_eq_true rfl) ?_
  change Z n0 xX0_alteredSpot d 0 0 0 [(0, .ref (n0 + o0)), (1, .int p0), (2, .int p1)] [] K I L (z_q0 K Q)
  refine z_iload_n 1 dX0_alteredSpot_0 rfl ?_
  refine z_bipush 10 dX0_alteredSpot_1 (by decide) ?_
  refine z_imul dX0_alteredSpot_3 ?_
  refine z_iload_n 2 dX0_alteredSpot_4 rfl ?_
  refine z_iadd dX0_alteredSpot_5 ?_
  refine z_istore_n [1, 2, 3, 0] [(0, .ref (n0 + o0)), (1, .int p0), (2, .int p1), (3, .int ((p0 * 10) + p1))] dX0_alteredSpot_6 (by decide) rfl ?_
  refine z_iconst 0 dX0_alteredSpot_7 (by decide) ?_
  refine z_istore [1, 2, 3, 4, 0] [(0, .ref (n0 + o0)), (1, .int p0), (2, .int p1), (3, .int ((p0 * 10) + p1)), (4, .int 0)] dX0_alteredSpot_8 (by decide) rfl ?_
  refine z_sub [0, 3, 4] rfl ?_
  exact h
set_option maxRecDepth 100000 in
set_option maxHeartbeats 4000000 in
theorem wp_X0_alteredSpot_10 {n0 d : Nat} {rc rs : Nat} {K : z_K} {I : z_I} {L : z_L} {Q : z_q} {o0 : Nat} {a3 : Int32} {a4 : Int32} (h : o0 < K.1 ∧ (K.2.1 o0).1 = 0 ∧ (if a4 < (I o0 5) then (∃ q4, K.2.2 o0 2 = some q4 ∧ ∃ n5, q4 < K.1 ∧ K.2.1 q4 = (20, n5) ∧ vp_in a4 n5 ∧ (if ((I q4 a4.toNatClampNeg) : Int32) = a3 then Q (some (.int a4)) I L else Z n0 xX0_alteredSpot d rc rs 10 [(0, .ref (n0 + o0)), (3, .int a3), (4, .int (a4 + 1))] [] K I L (z_q0 K Q))) else Q (some (.int (I o0 5))) I L)) : Z n0 xX0_alteredSpot d rc rs 10 [(0, .ref (n0 + o0)), (3, .int a3), (4, .int a4)] [] K I L (z_q0 K Q) := by
  refine z_iload 2 dX0_alteredSpot_10 rfl ?_
  refine z_aload_n 0 dX0_alteredSpot_12 rfl ?_
  obtain ⟨o1, o2, h⟩ := h
  refine fg_0_37 (I o0 5) rfl dX0_alteredSpot_13 o1 o2 rfl ?_
  refine z_icmp_ge 39 dX0_alteredSpot_16 (by decide) (fun g3 => ?_) (fun g3 => ?_)
  · rw [if_neg g3] at h
    refine z_aload_n 0 dX0_alteredSpot_39 rfl ?_
    refine fg_0_37 (I o0 5) rfl dX0_alteredSpot_40 o1 o2 rfl ?_
    exact z_iret dX0_alteredSpot_43 rfl ⟨rfl, h⟩
  · rw [if_pos g3] at h
    refine z_aload_n 0 dX0_alteredSpot_19 rfl ?_
    obtain ⟨q4, q4e, h⟩ := h
    refine fg_0_15 (some q4) rfl dX0_alteredSpot_20 o1 o2 q4e ?_
    refine z_iload 2 dX0_alteredSpot_23 rfl ?_
    obtain ⟨n5, o6, o7, o8, h⟩ := h
    refine z_iald (I q4 a4.toNatClampNeg) dX0_alteredSpot_25 o6 o7 o8 rfl ?_
    refine z_iload_n 1 dX0_alteredSpot_26 rfl ?_
    refine z_icmp_ne 33 dX0_alteredSpot_27 (by decide) (fun g9 => ?_) (fun g9 => ?_)
    · rw [if_neg g9] at h
      refine z_iinc (j := 2) (a4 + 1) [1, 2, 0] [(0, .ref (n0 + o0)), (3, .int a3), (4, .int (a4 + 1))] dX0_alteredSpot_33 rfl rfl (by decide) rfl ?_
      refine z_goto 10 dX0_alteredSpot_36 (by decide) ?_
      exact h
    · rw [if_pos g9] at h
      refine z_iload 2 dX0_alteredSpot_30 rfl ?_
      exact z_iret dX0_alteredSpot_32 rfl ⟨rfl, h⟩
theorem dX0_isAltered_0 : decode cX0_isAltered 0 = .ok (.aload_n 0, 1) := by decide +kernel
theorem dX0_isAltered_1 : decode cX0_isAltered 1 = .ok (.iload_n 1, 1) := by decide +kernel
theorem dX0_isAltered_2 : decode cX0_isAltered 2 = .ok (.iload_n 2, 1) := by decide +kernel
theorem dX0_isAltered_3 : decode cX0_isAltered 3 = .ok (.invokevirtual 40, 3) := by decide +kernel
theorem dX0_isAltered_6 : decode cX0_isAltered 6 = .ok (.aload_n 0, 1) := by decide +kernel
theorem dX0_isAltered_7 : decode cX0_isAltered 7 = .ok (.getfield 37, 3) := by decide +kernel
theorem dX0_isAltered_10 : decode cX0_isAltered 10 = .ok (.if_icmp .ge 7, 3) := by decide +kernel
theorem dX0_isAltered_13 : decode cX0_isAltered 13 = .ok (.iconst 1, 1) := by decide +kernel
theorem dX0_isAltered_14 : decode cX0_isAltered 14 = .ok (.goto 4, 3) := by decide +kernel
theorem dX0_isAltered_17 : decode cX0_isAltered 17 = .ok (.iconst 0, 1) := by decide +kernel
theorem dX0_isAltered_18 : decode cX0_isAltered 18 = .ok (.ireturn, 1) := by decide +kernel
set_option maxRecDepth 100000 in
set_option maxHeartbeats 4000000 in
theorem wp_X0_isAltered {n0 d : Nat} {K : z_K} {I : z_I} {L : z_L} {Q : z_q} {o0 : Nat} {p0 : Int32} {p1 : Int32} (h : o0 < K.1 ∧ (K.2.1 o0).1 = 0 ∧ RM0 n0 xX0_alteredSpot d [.ref (n0 + o0), .int p0, .int p1] K I L (fun vv I3 L4 => ∃ r5 : Int32, vv = some (.int r5) ∧ Q (some (.int (if r5 < (I3 o0 5) then 1 else 0))) I3 L4)) : RM0 n0 xX0_isAltered (d + 1) [.ref (n0 + o0), .int p0, .int p1] K I L Q := by
  refine z_entry0 (by decide) (Nat.le_of_ble_eq_true rfl) ?_
  change Z n0 xX0_isAltered (d + 1) 0 0 0 [(0, .ref (n0 + o0)), (1, .int p0), (2, .int p1)] [] K I L (z_q0 K Q)
  refine z_aload_n 0 dX0_isAltered_0 rfl ?_
  refine z_iload_n 1 dX0_isAltered_1 rfl ?_
  refine z_iload_n 2 dX0_isAltered_2 rfl ?_
  obtain ⟨o1, o2, h⟩ := h
  refine z_callV0 (As := [.int p0, .int p1]) (st := []) dX0_isAltered_3 hy_X0_alteredSpot o1 o2 (by decide) wg_808 wg_810 wg_18 (Nat.le_refl _) (Nat.le_of_ble_eq_true rfl) (RM0.mono h ?_)
  clear h
  intro vv I3 L4 h
  obtain ⟨r5, rfl, h⟩ := h
  change Z n0 xX0_isAltered (d + 1) 0 0 6 [(0, .ref (n0 + o0)), (1, .int p0), (2, .int p1)] [.int r5] K I3 L4 (z_q0 K Q)
  refine z_aload_n 0 dX0_isAltered_6 rfl ?_
  refine fg_0_37 (I3 o0 5) rfl dX0_isAltered_7 o1 o2 rfl ?_
  have key7 : Z n0 xX0_isAltered (d + 1) 0 0 18 [] [.int (if r5 < (I3 o0 5) then 1 else 0)] K I3 L4 (z_q0 K Q) := by
    exact z_zretb dX0_isAltered_18 rfl (z_bite (by repeat' (first | exact Or.inl rfl | exact Or.inr rfl | split))) ⟨rfl, h⟩
  refine z_icmp_ge 17 dX0_isAltered_10 (by decide) (fun g6 => ?_) (fun g6 => ?_)
  · refine z_iconst 0 dX0_isAltered_17 (by decide) ?_
    have ee : ((if r5 < (I3 o0 5) then 1 else 0) : Int32) = 0 := by rw [if_neg g6]
    rw [ee] at key7
    clear ee
    refine z_sub [] rfl ?_
    exact key7
  · refine z_iconst 1 dX0_isAltered_13 (by decide) ?_
    refine z_goto 18 dX0_isAltered_14 (by decide) ?_
    have ee : ((if r5 < (I3 o0 5) then 1 else 0) : Int32) = 1 := by rw [if_pos g6]
    rw [ee] at key7
    clear ee
    refine z_sub [] rfl ?_
    exact key7
theorem dX0_setAltered_0 : decode cX0_setAltered 0 = .ok (.aload_n 0, 1) := by decide +kernel
theorem dX0_setAltered_1 : decode cX0_setAltered 1 = .ok (.iload_n 1, 1) := by decide +kernel
theorem dX0_setAltered_2 : decode cX0_setAltered 2 = .ok (.iload_n 2, 1) := by decide +kernel
theorem dX0_setAltered_3 : decode cX0_setAltered 3 = .ok (.invokevirtual 40, 3) := by decide +kernel
theorem dX0_setAltered_6 : decode cX0_setAltered 6 = .ok (.istore 5, 2) := by decide +kernel
theorem dX0_setAltered_8 : decode cX0_setAltered 8 = .ok (.iload 5, 2) := by decide +kernel
theorem dX0_setAltered_10 : decode cX0_setAltered 10 = .ok (.bipush 40, 2) := by decide +kernel
theorem dX0_setAltered_12 : decode cX0_setAltered 12 = .ok (.if_icmp .lt 4, 3) := by decide +kernel
theorem dX0_setAltered_15 : decode cX0_setAltered 15 = .ok (.return_, 1) := by decide +kernel
theorem dX0_setAltered_16 : decode cX0_setAltered 16 = .ok (.iload 5, 2) := by decide +kernel
theorem dX0_setAltered_18 : decode cX0_setAltered 18 = .ok (.aload_n 0, 1) := by decide +kernel
theorem dX0_setAltered_19 : decode cX0_setAltered 19 = .ok (.getfield 37, 3) := by decide +kernel
theorem dX0_setAltered_22 : decode cX0_setAltered 22 = .ok (.if_icmp .ne 13, 3) := by decide +kernel
theorem dX0_setAltered_25 : decode cX0_setAltered 25 = .ok (.aload_n 0, 1) := by decide +kernel
theorem dX0_setAltered_26 : decode cX0_setAltered 26 = .ok (.dup, 1) := by decide +kernel
theorem dX0_setAltered_27 : decode cX0_setAltered 27 = .ok (.getfield 37, 3) := by decide +kernel
theorem dX0_setAltered_30 : decode cX0_setAltered 30 = .ok (.iconst 1, 1) := by decide +kernel
theorem dX0_setAltered_31 : decode cX0_setAltered 31 = .ok (.iadd, 1) := by decide +kernel
theorem dX0_setAltered_32 : decode cX0_setAltered 32 = .ok (.putfield 37, 3) := by decide +kernel
theorem dX0_setAltered_35 : decode cX0_setAltered 35 = .ok (.aload_n 0, 1) := by decide +kernel
theorem dX0_setAltered_36 : decode cX0_setAltered 36 = .ok (.getfield 15, 3) := by decide +kernel
theorem dX0_setAltered_39 : decode cX0_setAltered 39 = .ok (.iload 5, 2) := by decide +kernel
theorem dX0_setAltered_41 : decode cX0_setAltered 41 = .ok (.iload_n 1, 1) := by decide +kernel
theorem dX0_setAltered_42 : decode cX0_setAltered 42 = .ok (.bipush 10, 2) := by decide +kernel
theorem dX0_setAltered_44 : decode cX0_setAltered 44 = .ok (.imul, 1) := by decide +kernel
theorem dX0_setAltered_45 : decode cX0_setAltered 45 = .ok (.iload_n 2, 1) := by decide +kernel
theorem dX0_setAltered_46 : decode cX0_setAltered 46 = .ok (.iadd, 1) := by decide +kernel
theorem dX0_setAltered_47 : decode cX0_setAltered 47 = .ok (.iastore, 1) := by decide +kernel
theorem dX0_setAltered_48 : decode cX0_setAltered 48 = .ok (.aload_n 0, 1) := by decide +kernel
theorem dX0_setAltered_49 : decode cX0_setAltered 49 = .ok (.getfield 18, 3) := by decide +kernel
theorem dX0_setAltered_52 : decode cX0_setAltered 52 = .ok (.iload 5, 2) := by decide +kernel
theorem dX0_setAltered_54 : decode cX0_setAltered 54 = .ok (.iload_n 3, 1) := by decide +kernel
theorem dX0_setAltered_55 : decode cX0_setAltered 55 = .ok (.iastore, 1) := by decide +kernel
theorem dX0_setAltered_56 : decode cX0_setAltered 56 = .ok (.aload_n 0, 1) := by decide +kernel
theorem dX0_setAltered_57 : decode cX0_setAltered 57 = .ok (.getfield 21, 3) := by decide +kernel
theorem dX0_setAltered_60 : decode cX0_setAltered 60 = .ok (.iload 5, 2) := by decide +kernel
theorem dX0_setAltered_62 : decode cX0_setAltered 62 = .ok (.iload 4, 2) := by decide +kernel
theorem dX0_setAltered_64 : decode cX0_setAltered 64 = .ok (.iastore, 1) := by decide +kernel
theorem dX0_setAltered_65 : decode cX0_setAltered 65 = .ok (.return_, 1) := by decide +kernel
set_option maxRecDepth 100000 in
set_option maxHeartbeats 4000000 in
theorem wp_X0_setAltered {n0 d : Nat} {K : z_K} {I : z_I} {L : z_L} {Q : z_q} {o0 : Nat} {p0 : Int32} {p1 : Int32} {p2 : Int32} {p3 : Int32} (h : o0 < K.1 ∧ (K.2.1 o0).1 = 0 ∧ RM0 n0 xX0_alteredSpot d [.ref (n0 + o0), .int p0, .int p1] K I L (fun vv I3 L4 => ∃ r5 : Int32, vv = some (.int r5) ∧ (if r5 < 40 then (if r5 = (I3 o0 5) then (∃ q23, K.2.2 o0 2 = some q23 ∧ ∃ n24, q23 < K.1 ∧ K.2.1 q23 = (20, n24) ∧ vp_in r5 n24 ∧ (∃ q28, K.2.2 o0 3 = some q28 ∧ ∃ n29, q28 < K.1 ∧ K.2.1 q28 = (20, n29) ∧ vp_in r5 n29 ∧ (∃ q33, K.2.2 o0 4 = some q33 ∧ ∃ n34, q33 < K.1 ∧ K.2.1 q33 = (20, n34) ∧ vp_in r5 n34 ∧ Q none (zI (zI (zI (zI I3 o0 5 ((I3 o0 5) + 1)) q23 r5.toNatClampNeg ((p0 * 10) + p1)) q28 r5.toNatClampNeg p2) q33 r5.toNatClampNeg p3) L4))) else (∃ q8, K.2.2 o0 2 = some q8 ∧ ∃ n9, q8 < K.1 ∧ K.2.1 q8 = (20, n9) ∧ vp_in r5 n9 ∧ (∃ q13, K.2.2 o0 3 = some q13 ∧ ∃ n14, q13 < K.1 ∧ K.2.1 q13 = (20, n14) ∧ vp_in r5 n14 ∧ (∃ q18, K.2.2 o0 4 = some q18 ∧ ∃ n19, q18 < K.1 ∧ K.2.1 q18 = (20, n19) ∧ vp_in r5 n19 ∧ Q none (zI (zI (zI I3 q8 r5.toNatClampNeg ((p0 * 10) + p1)) q13 r5.toNatClampNeg p2) q18 r5.toNatClampNeg p3) L4)))) else Q none I3 L4))) : RM0 n0 xX0_setAltered (d + 1) [.ref (n0 + o0), .int p0, .int p1, .int p2, .int p3] K I L Q := by
  refine z_entry0 (by decide) (Nat.le_of_ble_eq_true rfl) ?_
  change Z n0 xX0_setAltered (d + 1) 0 0 0 [(0, .ref (n0 + o0)), (1, .int p0), (2, .int p1), (3, .int p2), (4, .int p3)] [] K I L (z_q0 K Q)
  refine z_aload_n 0 dX0_setAltered_0 rfl ?_
  refine z_iload_n 1 dX0_setAltered_1 rfl ?_
  refine z_iload_n 2 dX0_setAltered_2 rfl ?_
  obtain ⟨o1, o2, h⟩ := h
  refine z_callV0 (As := [.int p0, .int p1]) (st := []) dX0_setAltered_3 hy_X0_alteredSpot o1 o2 (by decide) wg_808 wg_810 wg_18 (Nat.le_refl _) (Nat.le_of_ble_eq_true rfl) (RM0.mono h ?_)
  clear h
  intro vv I3 L4 h
  obtain ⟨r5, rfl, h⟩ := h
  change Z n0 xX0_setAltered (d + 1) 0 0 6 [(0, .ref (n0 + o0)), (1, .int p0), (2, .int p1), (3, .int p2), (4, .int p3)] [.int r5] K I3 L4 (z_q0 K Q)
  refine z_istore [1, 2, 3, 4, 5, 0] [(0, .ref (n0 + o0)), (1, .int p0), (2, .int p1), (3, .int p2), (4, .int p3), (5, .int r5)] dX0_setAltered_6 (by decide) rfl ?_
  refine z_iload 5 dX0_setAltered_8 rfl ?_
  refine z_bipush 40 dX0_setAltered_10 (by decide) ?_
  refine z_icmp_lt 16 dX0_setAltered_12 (by decide) (fun g6 => ?_) (fun g6 => ?_)
  · rw [if_pos g6] at h
    refine z_iload 5 dX0_setAltered_16 rfl ?_
    refine z_aload_n 0 dX0_setAltered_18 rfl ?_
    refine fg_0_37 (I3 o0 5) rfl dX0_setAltered_19 o1 o2 rfl ?_
    refine z_icmp_ne 35 dX0_setAltered_22 (by decide) (fun g7 => ?_) (fun g7 => ?_)
    · rw [if_neg g7] at h
      refine z_aload_n 0 dX0_setAltered_35 rfl ?_
      obtain ⟨q8, q8e, h⟩ := h
      refine fg_0_15 (some q8) rfl dX0_setAltered_36 o1 o2 q8e ?_
      refine z_iload 5 dX0_setAltered_39 rfl ?_
      refine z_iload_n 1 dX0_setAltered_41 rfl ?_
      refine z_bipush 10 dX0_setAltered_42 (by decide) ?_
      refine z_imul dX0_setAltered_44 ?_
      refine z_iload_n 2 dX0_setAltered_45 rfl ?_
      refine z_iadd dX0_setAltered_46 ?_
      obtain ⟨n9, o10, o11, o12, h⟩ := h
      refine z_iast dX0_setAltered_47 o10 o11 o12 ?_
      refine z_aload_n 0 dX0_setAltered_48 rfl ?_
      obtain ⟨q13, q13e, h⟩ := h
      refine fg_0_18 (some q13) rfl dX0_setAltered_49 o1 o2 q13e ?_
      refine z_iload 5 dX0_setAltered_52 rfl ?_
      refine z_iload_n 3 dX0_setAltered_54 rfl ?_
      obtain ⟨n14, o15, o16, o17, h⟩ := h
      refine z_iast dX0_setAltered_55 o15 o16 o17 ?_
      refine z_aload_n 0 dX0_setAltered_56 rfl ?_
      obtain ⟨q18, q18e, h⟩ := h
      refine fg_0_21 (some q18) rfl dX0_setAltered_57 o1 o2 q18e ?_
      refine z_iload 5 dX0_setAltered_60 rfl ?_
      refine z_iload 4 dX0_setAltered_62 rfl ?_
      obtain ⟨n19, o20, o21, o22, h⟩ := h
      refine z_iast dX0_setAltered_64 o20 o21 o22 ?_
      exact z_vret dX0_setAltered_65 rfl ⟨rfl, h⟩
    · rw [if_pos g7] at h
      refine z_aload_n 0 dX0_setAltered_25 rfl ?_
      refine z_dup dX0_setAltered_26 rfl ?_
      refine fg_0_37 (I3 o0 5) rfl dX0_setAltered_27 o1 o2 rfl ?_
      refine z_iconst 1 dX0_setAltered_30 (by decide) ?_
      refine z_iadd dX0_setAltered_31 ?_
      refine fp_0_37 rfl dX0_setAltered_32 o1 o2 ?_
      refine z_aload_n 0 dX0_setAltered_35 rfl ?_
      obtain ⟨q23, q23e, h⟩ := h
      refine fg_0_15 (some q23) rfl dX0_setAltered_36 o1 o2 q23e ?_
      refine z_iload 5 dX0_setAltered_39 rfl ?_
      refine z_iload_n 1 dX0_setAltered_41 rfl ?_
      refine z_bipush 10 dX0_setAltered_42 (by decide) ?_
      refine z_imul dX0_setAltered_44 ?_
      refine z_iload_n 2 dX0_setAltered_45 rfl ?_
      refine z_iadd dX0_setAltered_46 ?_
      obtain ⟨n24, o25, o26, o27, h⟩ := h
      refine z_iast dX0_setAltered_47 o25 o26 o27 ?_
      refine z_aload_n 0 dX0_setAltered_48 rfl ?_
      obtain ⟨q28, q28e, h⟩ := h
      refine fg_0_18 (some q28) rfl dX0_setAltered_49 o1 o2 q28e ?_
      refine z_iload 5 dX0_setAltered_52 rfl ?_
      refine z_iload_n 3 dX0_setAltered_54 rfl ?_
      obtain ⟨n29, o30, o31, o32, h⟩ := h
      refine z_iast dX0_setAltered_55 o30 o31 o32 ?_
      refine z_aload_n 0 dX0_setAltered_56 rfl ?_
      obtain ⟨q33, q33e, h⟩ := h
      refine fg_0_21 (some q33) rfl dX0_setAltered_57 o1 o2 q33e ?_
      refine z_iload 5 dX0_setAltered_60 rfl ?_
      refine z_iload 4 dX0_setAltered_62 rfl ?_
      obtain ⟨n34, o35, o36, o37, h⟩ := h
      refine z_iast dX0_setAltered_64 o35 o36 o37 ?_
      exact z_vret dX0_setAltered_65 rfl ⟨rfl, h⟩
  · rw [if_neg g6] at h
    exact z_vret dX0_setAltered_15 rfl ⟨rfl, h⟩
theorem dX0_moveOf_0 : decode cX0_moveOf 0 = .ok (.aload_n 0, 1) := by decide +kernel
theorem dX0_moveOf_1 : decode cX0_moveOf 1 = .ok (.iload_n 1, 1) := by decide +kernel
theorem dX0_moveOf_2 : decode cX0_moveOf 2 = .ok (.iload_n 2, 1) := by decide +kernel
theorem dX0_moveOf_3 : decode cX0_moveOf 3 = .ok (.invokevirtual 40, 3) := by decide +kernel
theorem dX0_moveOf_6 : decode cX0_moveOf 6 = .ok (.istore 4, 2) := by decide +kernel
theorem dX0_moveOf_8 : decode cX0_moveOf 8 = .ok (.iload 4, 2) := by decide +kernel
theorem dX0_moveOf_10 : decode cX0_moveOf 10 = .ok (.aload_n 0, 1) := by decide +kernel
theorem dX0_moveOf_11 : decode cX0_moveOf 11 = .ok (.getfield 37, 3) := by decide +kernel
theorem dX0_moveOf_14 : decode cX0_moveOf 14 = .ok (.if_icmp .lt 5, 3) := by decide +kernel
theorem dX0_moveOf_17 : decode cX0_moveOf 17 = .ok (.iconst 0, 1) := by decide +kernel
theorem dX0_moveOf_18 : decode cX0_moveOf 18 = .ok (.ireturn, 1) := by decide +kernel
theorem dX0_moveOf_19 : decode cX0_moveOf 19 = .ok (.iload_n 3, 1) := by decide +kernel
theorem dX0_moveOf_20 : decode cX0_moveOf 20 = .ok (.ifCond .ne 13, 3) := by decide +kernel
theorem dX0_moveOf_23 : decode cX0_moveOf 23 = .ok (.aload_n 0, 1) := by decide +kernel
theorem dX0_moveOf_24 : decode cX0_moveOf 24 = .ok (.getfield 18, 3) := by decide +kernel
theorem dX0_moveOf_27 : decode cX0_moveOf 27 = .ok (.iload 4, 2) := by decide +kernel
theorem dX0_moveOf_29 : decode cX0_moveOf 29 = .ok (.iaload, 1) := by decide +kernel
theorem dX0_moveOf_30 : decode cX0_moveOf 30 = .ok (.goto 10, 3) := by decide +kernel
theorem dX0_moveOf_33 : decode cX0_moveOf 33 = .ok (.aload_n 0, 1) := by decide +kernel
theorem dX0_moveOf_34 : decode cX0_moveOf 34 = .ok (.getfield 21, 3) := by decide +kernel
theorem dX0_moveOf_37 : decode cX0_moveOf 37 = .ok (.iload 4, 2) := by decide +kernel
theorem dX0_moveOf_39 : decode cX0_moveOf 39 = .ok (.iaload, 1) := by decide +kernel
theorem dX0_moveOf_40 : decode cX0_moveOf 40 = .ok (.ireturn, 1) := by decide +kernel
set_option maxRecDepth 100000 in
set_option maxHeartbeats 4000000 in
theorem wp_X0_moveOf {n0 d : Nat} {K : z_K} {I : z_I} {L : z_L} {Q : z_q} {o0 : Nat} {p0 : Int32} {p1 : Int32} {p2 : Int32} (h : o0 < K.1 ∧ (K.2.1 o0).1 = 0 ∧ RM0 n0 xX0_alteredSpot d [.ref (n0 + o0), .int p0, .int p1] K I L (fun vv I3 L4 => ∃ r5 : Int32, vv = some (.int r5) ∧ (if r5 < (I3 o0 5) then (if p2 = 0 then (∃ q14, K.2.2 o0 3 = some q14 ∧ ∃ n15, q14 < K.1 ∧ K.2.1 q14 = (20, n15) ∧ vp_in r5 n15 ∧ Q (some (.int (I3 q14 r5.toNatClampNeg))) I3 L4) else (∃ q9, K.2.2 o0 4 = some q9 ∧ ∃ n10, q9 < K.1 ∧ K.2.1 q9 = (20, n10) ∧ vp_in r5 n10 ∧ Q (some (.int (I3 q9 r5.toNatClampNeg))) I3 L4)) else Q (some (.int 0)) I3 L4))) : RM0 n0 xX0_moveOf (d + 1) [.ref (n0 + o0), .int p0, .int p1, .int p2] K I L Q := by
  refine z_entry0 (by decide) (Nat.le_of_ble_eq_true rfl) ?_
  change Z n0 xX0_moveOf (d + 1) 0 0 0 [(0, .ref (n0 + o0)), (1, .int p0), (2, .int p1), (3, .int p2)] [] K I L (z_q0 K Q)
  refine z_aload_n 0 dX0_moveOf_0 rfl ?_
  refine z_iload_n 1 dX0_moveOf_1 rfl ?_
  refine z_iload_n 2 dX0_moveOf_2 rfl ?_
  obtain ⟨o1, o2, h⟩ := h
  refine z_callV0 (As := [.int p0, .int p1]) (st := []) dX0_moveOf_3 hy_X0_alteredSpot o1 o2 (by decide) wg_808 wg_810 wg_18 (Nat.le_refl _) (Nat.le_of_ble_eq_true rfl) (RM0.mono h ?_)
  clear h
  intro vv I3 L4 h
  obtain ⟨r5, rfl, h⟩ := h
  change Z n0 xX0_moveOf (d + 1) 0 0 6 [(0, .ref (n0 + o0)), (1, .int p0), (2, .int p1), (3, .int p2)] [.int r5] K I3 L4 (z_q0 K Q)
  refine z_istore [1, 2, 3, 4, 0] [(0, .ref (n0 + o0)), (1, .int p0), (2, .int p1), (3, .int p2), (4, .int r5)] dX0_moveOf_6 (by decide) rfl ?_
  refine z_iload 4 dX0_moveOf_8 rfl ?_
  refine z_aload_n 0 dX0_moveOf_10 rfl ?_
  refine fg_0_37 (I3 o0 5) rfl dX0_moveOf_11 o1 o2 rfl ?_
  refine z_icmp_lt 19 dX0_moveOf_14 (by decide) (fun g6 => ?_) (fun g6 => ?_)
  · rw [if_pos g6] at h
    refine z_iload_n 3 dX0_moveOf_19 rfl ?_
    refine z_if_ne 33 dX0_moveOf_20 (by decide) (fun g8 => ?_) (fun g8 => ?_)
    · rw [if_neg g8] at h
      refine z_aload_n 0 dX0_moveOf_33 rfl ?_
      obtain ⟨q9, q9e, h⟩ := h
      refine fg_0_21 (some q9) rfl dX0_moveOf_34 o1 o2 q9e ?_
      refine z_iload 4 dX0_moveOf_37 rfl ?_
      obtain ⟨n10, o11, o12, o13, h⟩ := h
      refine z_iald (I3 q9 r5.toNatClampNeg) dX0_moveOf_39 o11 o12 o13 rfl ?_
      exact z_iret dX0_moveOf_40 rfl ⟨rfl, h⟩
    · rw [if_pos g8] at h
      refine z_aload_n 0 dX0_moveOf_23 rfl ?_
      obtain ⟨q14, q14e, h⟩ := h
      refine fg_0_18 (some q14) rfl dX0_moveOf_24 o1 o2 q14e ?_
      refine z_iload 4 dX0_moveOf_27 rfl ?_
      obtain ⟨n15, o16, o17, o18, h⟩ := h
      refine z_iald (I3 q14 r5.toNatClampNeg) dX0_moveOf_29 o16 o17 o18 rfl ?_
      refine z_goto 40 dX0_moveOf_30 (by decide) ?_
      exact z_iret dX0_moveOf_40 rfl ⟨rfl, h⟩
  · rw [if_neg g6] at h
    refine z_iconst 0 dX0_moveOf_17 (by decide) ?_
    exact z_iret dX0_moveOf_18 rfl ⟨rfl, h⟩
theorem dX0_addTrial_0 : decode cX0_addTrial 0 = .ok (.aload_n 0, 1) := by decide +kernel
theorem dX0_addTrial_1 : decode cX0_addTrial 1 = .ok (.getfield 44, 3) := by decide +kernel
theorem dX0_addTrial_4 : decode cX0_addTrial 4 = .ok (.bipush 30, 2) := by decide +kernel
theorem dX0_addTrial_6 : decode cX0_addTrial 6 = .ok (.if_icmp .lt 4, 3) := by decide +kernel
theorem dX0_addTrial_9 : decode cX0_addTrial 9 = .ok (.return_, 1) := by decide +kernel
theorem dX0_addTrial_10 : decode cX0_addTrial 10 = .ok (.aload_n 0, 1) := by decide +kernel
theorem dX0_addTrial_11 : decode cX0_addTrial 11 = .ok (.getfield 24, 3) := by decide +kernel
theorem dX0_addTrial_14 : decode cX0_addTrial 14 = .ok (.aload_n 0, 1) := by decide +kernel
theorem dX0_addTrial_15 : decode cX0_addTrial 15 = .ok (.getfield 44, 3) := by decide +kernel
theorem dX0_addTrial_18 : decode cX0_addTrial 18 = .ok (.iload_n 1, 1) := by decide +kernel
theorem dX0_addTrial_19 : decode cX0_addTrial 19 = .ok (.iastore, 1) := by decide +kernel
theorem dX0_addTrial_20 : decode cX0_addTrial 20 = .ok (.aload_n 0, 1) := by decide +kernel
theorem dX0_addTrial_21 : decode cX0_addTrial 21 = .ok (.getfield 27, 3) := by decide +kernel
theorem dX0_addTrial_24 : decode cX0_addTrial 24 = .ok (.aload_n 0, 1) := by decide +kernel
theorem dX0_addTrial_25 : decode cX0_addTrial 25 = .ok (.getfield 44, 3) := by decide +kernel
theorem dX0_addTrial_28 : decode cX0_addTrial 28 = .ok (.iload_n 2, 1) := by decide +kernel
theorem dX0_addTrial_29 : decode cX0_addTrial 29 = .ok (.iastore, 1) := by decide +kernel
theorem dX0_addTrial_30 : decode cX0_addTrial 30 = .ok (.aload_n 0, 1) := by decide +kernel
theorem dX0_addTrial_31 : decode cX0_addTrial 31 = .ok (.getfield 30, 3) := by decide +kernel
theorem dX0_addTrial_34 : decode cX0_addTrial 34 = .ok (.aload_n 0, 1) := by decide +kernel
theorem dX0_addTrial_35 : decode cX0_addTrial 35 = .ok (.getfield 44, 3) := by decide +kernel
theorem dX0_addTrial_38 : decode cX0_addTrial 38 = .ok (.iload_n 3, 1) := by decide +kernel
theorem dX0_addTrial_39 : decode cX0_addTrial 39 = .ok (.iastore, 1) := by decide +kernel
theorem dX0_addTrial_40 : decode cX0_addTrial 40 = .ok (.aload_n 0, 1) := by decide +kernel
theorem dX0_addTrial_41 : decode cX0_addTrial 41 = .ok (.dup, 1) := by decide +kernel
theorem dX0_addTrial_42 : decode cX0_addTrial 42 = .ok (.getfield 44, 3) := by decide +kernel
theorem dX0_addTrial_45 : decode cX0_addTrial 45 = .ok (.iconst 1, 1) := by decide +kernel
theorem dX0_addTrial_46 : decode cX0_addTrial 46 = .ok (.iadd, 1) := by decide +kernel
theorem dX0_addTrial_47 : decode cX0_addTrial 47 = .ok (.putfield 44, 3) := by decide +kernel
theorem dX0_addTrial_50 : decode cX0_addTrial 50 = .ok (.return_, 1) := by decide +kernel
set_option maxRecDepth 100000 in
set_option maxHeartbeats 4000000 in
theorem wp_X0_addTrial {n0 d : Nat} {K : z_K} {I : z_I} {L : z_L} {Q : z_q} {o0 : Nat} {p0 : Int32} {p1 : Int32} {p2 : Int32} (h : o0 < K.1 ∧ (K.2.1 o0).1 = 0 ∧ (if ((I o0 9) : Int32) < 30 then (∃ q4, K.2.2 o0 6 = some q4 ∧ ∃ n5, q4 < K.1 ∧ K.2.1 q4 = (20, n5) ∧ vp_in (I o0 9) n5 ∧ (∃ q9, K.2.2 o0 7 = some q9 ∧ ∃ n10, q9 < K.1 ∧ K.2.1 q9 = (20, n10) ∧ vp_in ((zI I q4 ((I o0 9).toNatClampNeg) p0) o0 9) n10 ∧ (∃ q14, K.2.2 o0 8 = some q14 ∧ ∃ n15, q14 < K.1 ∧ K.2.1 q14 = (20, n15) ∧ vp_in ((zI (zI I q4 ((I o0 9).toNatClampNeg) p0) q9 (((zI I q4 ((I o0 9).toNatClampNeg) p0) o0 9).toNatClampNeg) p1) o0 9) n15 ∧ Q none (zI (zI (zI (zI I q4 ((I o0 9).toNatClampNeg) p0) q9 (((zI I q4 ((I o0 9).toNatClampNeg) p0) o0 9).toNatClampNeg) p1) q14 (((zI (zI I q4 ((I o0 9).toNatClampNeg) p0) q9 (((zI I q4 ((I o0 9).toNatClampNeg) p0) o0 9).toNatClampNeg) p1) o0 9).toNatClampNeg) p2) o0 9 (((zI (zI (zI I q4 ((I o0 9).toNatClampNeg) p0) q9 (((zI I q4 ((I o0 9).toNatClampNeg) p0) o0 9).toNatClampNeg) p1) q14 (((zI (zI I q4 ((I o0 9).toNatClampNeg) p0) q9 (((zI I q4 ((I o0 9).toNatClampNeg) p0) o0 9).toNatClampNeg) p1) o0 9).toNatClampNeg) p2) o0 9) + 1)) L))) else Q none I L)) : RM0 n0 xX0_addTrial d [.ref (n0 + o0), .int p0, .int p1, .int p2] K I L Q := by
  refine z_entry0 (by decide) (Nat.le_of_ble_eq_true rfl) ?_
  change Z n0 xX0_addTrial d 0 0 0 [(0, .ref (n0 + o0)), (1, .int p0), (2, .int p1), (3, .int p2)] [] K I L (z_q0 K Q)
  refine z_aload_n 0 dX0_addTrial_0 rfl ?_
  obtain ⟨o1, o2, h⟩ := h
  refine fg_0_44 (I o0 9) rfl dX0_addTrial_1 o1 o2 rfl ?_
  refine z_bipush 30 dX0_addTrial_4 (by decide) ?_
  refine z_icmp_lt 10 dX0_addTrial_6 (by decide) (fun g3 => ?_) (fun g3 => ?_)
  · rw [if_pos g3] at h
    refine z_aload_n 0 dX0_addTrial_10 rfl ?_
    obtain ⟨q4, q4e, h⟩ := h
    refine fg_0_24 (some q4) rfl dX0_addTrial_11 o1 o2 q4e ?_
    refine z_aload_n 0 dX0_addTrial_14 rfl ?_
    refine fg_0_44 (I o0 9) rfl dX0_addTrial_15 o1 o2 rfl ?_
    refine z_iload_n 1 dX0_addTrial_18 rfl ?_
    obtain ⟨n5, o6, o7, o8, h⟩ := h
    refine z_iast dX0_addTrial_19 o6 o7 o8 ?_
    refine z_aload_n 0 dX0_addTrial_20 rfl ?_
    obtain ⟨q9, q9e, h⟩ := h
    refine fg_0_27 (some q9) rfl dX0_addTrial_21 o1 o2 q9e ?_
    refine z_aload_n 0 dX0_addTrial_24 rfl ?_
    refine fg_0_44 ((zI I q4 ((I o0 9).toNatClampNeg) p0) o0 9) rfl dX0_addTrial_25 o1 o2 rfl ?_
    refine z_iload_n 2 dX0_addTrial_28 rfl ?_
    obtain ⟨n10, o11, o12, o13, h⟩ := h
    refine z_iast dX0_addTrial_29 o11 o12 o13 ?_
    refine z_aload_n 0 dX0_addTrial_30 rfl ?_
    obtain ⟨q14, q14e, h⟩ := h
    refine fg_0_30 (some q14) rfl dX0_addTrial_31 o1 o2 q14e ?_
    refine z_aload_n 0 dX0_addTrial_34 rfl ?_
    refine fg_0_44 ((zI (zI I q4 ((I o0 9).toNatClampNeg) p0) q9 (((zI I q4 ((I o0 9).toNatClampNeg) p0) o0 9).toNatClampNeg) p1) o0 9) rfl dX0_addTrial_35 o1 o2 rfl ?_
    refine z_iload_n 3 dX0_addTrial_38 rfl ?_
    obtain ⟨n15, o16, o17, o18, h⟩ := h
    refine z_iast dX0_addTrial_39 o16 o17 o18 ?_
    refine z_aload_n 0 dX0_addTrial_40 rfl ?_
    refine z_dup dX0_addTrial_41 rfl ?_
    refine fg_0_44 ((zI (zI (zI I q4 ((I o0 9).toNatClampNeg) p0) q9 (((zI I q4 ((I o0 9).toNatClampNeg) p0) o0 9).toNatClampNeg) p1) q14 (((zI (zI I q4 ((I o0 9).toNatClampNeg) p0) q9 (((zI I q4 ((I o0 9).toNatClampNeg) p0) o0 9).toNatClampNeg) p1) o0 9).toNatClampNeg) p2) o0 9) rfl dX0_addTrial_42 o1 o2 rfl ?_
    refine z_iconst 1 dX0_addTrial_45 (by decide) ?_
    refine z_iadd dX0_addTrial_46 ?_
    refine fp_0_44 rfl dX0_addTrial_47 o1 o2 ?_
    exact z_vret dX0_addTrial_50 rfl ⟨rfl, h⟩
  · rw [if_neg g3] at h
    exact z_vret dX0_addTrial_9 rfl ⟨rfl, h⟩
theorem dX0_hasTrial_0 : decode cX0_hasTrial 0 = .ok (.iconst 0, 1) := by decide +kernel
theorem dX0_hasTrial_1 : decode cX0_hasTrial 1 = .ok (.istore_n 2, 1) := by decide +kernel
theorem dX0_hasTrial_2 : decode cX0_hasTrial 2 = .ok (.iload_n 2, 1) := by decide +kernel
theorem dX0_hasTrial_3 : decode cX0_hasTrial 3 = .ok (.aload_n 0, 1) := by decide +kernel
theorem dX0_hasTrial_4 : decode cX0_hasTrial 4 = .ok (.getfield 44, 3) := by decide +kernel
theorem dX0_hasTrial_7 : decode cX0_hasTrial 7 = .ok (.if_icmp .ge 21, 3) := by decide +kernel
theorem dX0_hasTrial_10 : decode cX0_hasTrial 10 = .ok (.aload_n 0, 1) := by decide +kernel
theorem dX0_hasTrial_11 : decode cX0_hasTrial 11 = .ok (.getfield 24, 3) := by decide +kernel
theorem dX0_hasTrial_14 : decode cX0_hasTrial 14 = .ok (.iload_n 2, 1) := by decide +kernel
theorem dX0_hasTrial_15 : decode cX0_hasTrial 15 = .ok (.iaload, 1) := by decide +kernel
theorem dX0_hasTrial_16 : decode cX0_hasTrial 16 = .ok (.iload_n 1, 1) := by decide +kernel
theorem dX0_hasTrial_17 : decode cX0_hasTrial 17 = .ok (.if_icmp .ne 5, 3) := by decide +kernel
theorem dX0_hasTrial_20 : decode cX0_hasTrial 20 = .ok (.iconst 1, 1) := by decide +kernel
theorem dX0_hasTrial_21 : decode cX0_hasTrial 21 = .ok (.ireturn, 1) := by decide +kernel
theorem dX0_hasTrial_22 : decode cX0_hasTrial 22 = .ok (.iinc 2 1, 3) := by decide +kernel
theorem dX0_hasTrial_25 : decode cX0_hasTrial 25 = .ok (.goto (-23), 3) := by decide +kernel
theorem dX0_hasTrial_28 : decode cX0_hasTrial 28 = .ok (.iconst 0, 1) := by decide +kernel
theorem dX0_hasTrial_29 : decode cX0_hasTrial 29 = .ok (.ireturn, 1) := by decide +kernel
set_option maxRecDepth 100000 in
set_option maxHeartbeats 4000000 in
theorem wp_X0_hasTrial {n0 d : Nat} {K : z_K} {I : z_I} {L : z_L} {Q : z_q} {o0 : Nat} {p0 : Int32} (h : Z n0 xX0_hasTrial d 0 0 2 [(0, .ref (n0 + o0)), (1, .int p0), (2, .int 0)] [] K I L (z_q0 K Q)) : RM0 n0 xX0_hasTrial d [.ref (n0 + o0), .int p0] K I L Q := by
  refine z_entry0 (by decide) (Nat.le_of_ble_eq_true rfl) ?_
  change Z n0 xX0_hasTrial d 0 0 0 [(0, .ref (n0 + o0)), (1, .int p0)] [] K I L (z_q0 K Q)
  refine z_iconst 0 dX0_hasTrial_0 (by decide) ?_
  refine z_istore_n [1, 2, 0] [(0, .ref (n0 + o0)), (1, .int p0), (2, .int 0)] dX0_hasTrial_1 (by decide) rfl ?_
  exact h
set_option maxRecDepth 100000 in
set_option maxHeartbeats 4000000 in
theorem wp_X0_hasTrial_2 {n0 d : Nat} {rc rs : Nat} {K : z_K} {I : z_I} {L : z_L} {Q : z_q} {o0 : Nat} {a1 : Int32} {a2 : Int32} (h : o0 < K.1 ∧ (K.2.1 o0).1 = 0 ∧ (if a2 < (I o0 9) then (∃ q4, K.2.2 o0 6 = some q4 ∧ ∃ n5, q4 < K.1 ∧ K.2.1 q4 = (20, n5) ∧ vp_in a2 n5 ∧ (if ((I q4 a2.toNatClampNeg) : Int32) = a1 then Q (some (.int 1)) I L else Z n0 xX0_hasTrial d rc rs 2 [(0, .ref (n0 + o0)), (1, .int a1), (2, .int (a2 + 1))] [] K I L (z_q0 K Q))) else Q (some (.int 0)) I L)) : Z n0 xX0_hasTrial d rc rs 2 [(0, .ref (n0 + o0)), (1, .int a1), (2, .int a2)] [] K I L (z_q0 K Q) := by
  refine z_iload_n 2 dX0_hasTrial_2 rfl ?_
  refine z_aload_n 0 dX0_hasTrial_3 rfl ?_
  obtain ⟨o1, o2, h⟩ := h
  refine fg_0_44 (I o0 9) rfl dX0_hasTrial_4 o1 o2 rfl ?_
  refine z_icmp_ge 28 dX0_hasTrial_7 (by decide) (fun g3 => ?_) (fun g3 => ?_)
  · rw [if_neg g3] at h
    refine z_iconst 0 dX0_hasTrial_28 (by decide) ?_
    exact z_zretb dX0_hasTrial_29 rfl (Or.inl rfl) ⟨rfl, h⟩
  · rw [if_pos g3] at h
    refine z_aload_n 0 dX0_hasTrial_10 rfl ?_
    obtain ⟨q4, q4e, h⟩ := h
    refine fg_0_24 (some q4) rfl dX0_hasTrial_11 o1 o2 q4e ?_
    refine z_iload_n 2 dX0_hasTrial_14 rfl ?_
    obtain ⟨n5, o6, o7, o8, h⟩ := h
    refine z_iald (I q4 a2.toNatClampNeg) dX0_hasTrial_15 o6 o7 o8 rfl ?_
    refine z_iload_n 1 dX0_hasTrial_16 rfl ?_
    refine z_icmp_ne 22 dX0_hasTrial_17 (by decide) (fun g9 => ?_) (fun g9 => ?_)
    · rw [if_neg g9] at h
      refine z_iinc (j := 2) (a2 + 1) [1, 2, 0] [(0, .ref (n0 + o0)), (1, .int a1), (2, .int (a2 + 1))] dX0_hasTrial_22 rfl rfl (by decide) rfl ?_
      refine z_goto 2 dX0_hasTrial_25 (by decide) ?_
      exact h
    · rw [if_pos g9] at h
      refine z_iconst 1 dX0_hasTrial_20 (by decide) ?_
      exact z_zretb dX0_hasTrial_21 rfl (Or.inr rfl) ⟨rfl, h⟩
theorem dX0_leastSaid_0 : decode cX0_leastSaid 0 = .ok (.ldc 47, 2) := by decide +kernel
theorem dX0_leastSaid_2 : decode cX0_leastSaid 2 = .ok (.istore_n 2, 1) := by decide +kernel
theorem dX0_leastSaid_3 : decode cX0_leastSaid 3 = .ok (.iconst 0, 1) := by decide +kernel
theorem dX0_leastSaid_4 : decode cX0_leastSaid 4 = .ok (.istore_n 3, 1) := by decide +kernel
theorem dX0_leastSaid_5 : decode cX0_leastSaid 5 = .ok (.iload_n 3, 1) := by decide +kernel
theorem dX0_leastSaid_6 : decode cX0_leastSaid 6 = .ok (.aload_n 0, 1) := by decide +kernel
theorem dX0_leastSaid_7 : decode cX0_leastSaid 7 = .ok (.getfield 44, 3) := by decide +kernel
theorem dX0_leastSaid_10 : decode cX0_leastSaid 10 = .ok (.if_icmp .ge 30, 3) := by decide +kernel
theorem dX0_leastSaid_13 : decode cX0_leastSaid 13 = .ok (.aload_n 0, 1) := by decide +kernel
theorem dX0_leastSaid_14 : decode cX0_leastSaid 14 = .ok (.getfield 24, 3) := by decide +kernel
theorem dX0_leastSaid_17 : decode cX0_leastSaid 17 = .ok (.iload_n 3, 1) := by decide +kernel
theorem dX0_leastSaid_18 : decode cX0_leastSaid 18 = .ok (.iaload, 1) := by decide +kernel
theorem dX0_leastSaid_19 : decode cX0_leastSaid 19 = .ok (.iload_n 1, 1) := by decide +kernel
theorem dX0_leastSaid_20 : decode cX0_leastSaid 20 = .ok (.if_icmp .ne 14, 3) := by decide +kernel
theorem dX0_leastSaid_23 : decode cX0_leastSaid 23 = .ok (.iload_n 2, 1) := by decide +kernel
theorem dX0_leastSaid_24 : decode cX0_leastSaid 24 = .ok (.aload_n 0, 1) := by decide +kernel
theorem dX0_leastSaid_25 : decode cX0_leastSaid 25 = .ok (.getfield 27, 3) := by decide +kernel
theorem dX0_leastSaid_28 : decode cX0_leastSaid 28 = .ok (.iload_n 3, 1) := by decide +kernel
theorem dX0_leastSaid_29 : decode cX0_leastSaid 29 = .ok (.iaload, 1) := by decide +kernel
theorem dX0_leastSaid_30 : decode cX0_leastSaid 30 = .ok (.invokestatic 48, 3) := by decide +kernel
theorem dX0_leastSaid_33 : decode cX0_leastSaid 33 = .ok (.istore_n 2, 1) := by decide +kernel
theorem dX0_leastSaid_34 : decode cX0_leastSaid 34 = .ok (.iinc 3 1, 3) := by decide +kernel
theorem dX0_leastSaid_37 : decode cX0_leastSaid 37 = .ok (.goto (-32), 3) := by decide +kernel
theorem dX0_leastSaid_40 : decode cX0_leastSaid 40 = .ok (.iload_n 2, 1) := by decide +kernel
theorem dX0_leastSaid_41 : decode cX0_leastSaid 41 = .ok (.ireturn, 1) := by decide +kernel
set_option maxRecDepth 100000 in
set_option maxHeartbeats 4000000 in
theorem wp_X0_leastSaid {n0 d : Nat} {K : z_K} {I : z_I} {L : z_L} {Q : z_q} {o0 : Nat} {p0 : Int32} (h : Z n0 xX0_leastSaid (d + 1) 0 0 5 [(0, .ref (n0 + o0)), (1, .int p0), (2, .int (-99999)), (3, .int 0)] [] K I L (z_q0 K Q)) : RM0 n0 xX0_leastSaid (d + 1) [.ref (n0 + o0), .int p0] K I L Q := by
  refine z_entry0 (by decide) (Nat.le_of_ble_eq_true rfl) ?_
  change Z n0 xX0_leastSaid (d + 1) 0 0 0 [(0, .ref (n0 + o0)), (1, .int p0)] [] K I L (z_q0 K Q)
  refine z_ldc (-99999) dX0_leastSaid_0 wg_1241 ?_
  refine z_istore_n [1, 2, 0] [(0, .ref (n0 + o0)), (1, .int p0), (2, .int (-99999))] dX0_leastSaid_2 (by decide) rfl ?_
  refine z_iconst 0 dX0_leastSaid_3 (by decide) ?_
  refine z_istore_n [1, 2, 3, 0] [(0, .ref (n0 + o0)), (1, .int p0), (2, .int (-99999)), (3, .int 0)] dX0_leastSaid_4 (by decide) rfl ?_
  exact h
set_option maxRecDepth 100000 in
set_option maxHeartbeats 4000000 in
theorem wp_X0_leastSaid_5 {n0 d : Nat} {rc rs : Nat} {K : z_K} {I : z_I} {L : z_L} {Q : z_q} {o0 : Nat} {a1 : Int32} {a2 : Int32} {a3 : Int32} (h : o0 < K.1 ∧ (K.2.1 o0).1 = 0 ∧ (if a3 < (I o0 9) then (∃ q4, K.2.2 o0 6 = some q4 ∧ ∃ n5, q4 < K.1 ∧ K.2.1 q4 = (20, n5) ∧ vp_in a3 n5 ∧ (if ((I q4 a3.toNatClampNeg) : Int32) = a1 then (∃ q10, K.2.2 o0 7 = some q10 ∧ ∃ n11, q10 < K.1 ∧ K.2.1 q10 = (20, n11) ∧ vp_in a3 n11 ∧ Z n0 xX0_leastSaid (d + 1) rc rs 5 [(0, .ref (n0 + o0)), (1, .int a1), (2, .int (if a2 < (I q10 a3.toNatClampNeg) then (I q10 a3.toNatClampNeg) else a2)), (3, .int (a3 + 1))] [] K I L (z_q0 K Q)) else Z n0 xX0_leastSaid (d + 1) rc rs 5 [(0, .ref (n0 + o0)), (1, .int a1), (2, .int a2), (3, .int (a3 + 1))] [] K I L (z_q0 K Q))) else Q (some (.int a2)) I L)) : Z n0 xX0_leastSaid (d + 1) rc rs 5 [(0, .ref (n0 + o0)), (1, .int a1), (2, .int a2), (3, .int a3)] [] K I L (z_q0 K Q) := by
  refine z_iload_n 3 dX0_leastSaid_5 rfl ?_
  refine z_aload_n 0 dX0_leastSaid_6 rfl ?_
  obtain ⟨o1, o2, h⟩ := h
  refine fg_0_44 (I o0 9) rfl dX0_leastSaid_7 o1 o2 rfl ?_
  refine z_icmp_ge 40 dX0_leastSaid_10 (by decide) (fun g3 => ?_) (fun g3 => ?_)
  · rw [if_neg g3] at h
    refine z_iload_n 2 dX0_leastSaid_40 rfl ?_
    exact z_iret dX0_leastSaid_41 rfl ⟨rfl, h⟩
  · rw [if_pos g3] at h
    refine z_aload_n 0 dX0_leastSaid_13 rfl ?_
    obtain ⟨q4, q4e, h⟩ := h
    refine fg_0_24 (some q4) rfl dX0_leastSaid_14 o1 o2 q4e ?_
    refine z_iload_n 3 dX0_leastSaid_17 rfl ?_
    obtain ⟨n5, o6, o7, o8, h⟩ := h
    refine z_iald (I q4 a3.toNatClampNeg) dX0_leastSaid_18 o6 o7 o8 rfl ?_
    refine z_iload_n 1 dX0_leastSaid_19 rfl ?_
    refine z_icmp_ne 34 dX0_leastSaid_20 (by decide) (fun g9 => ?_) (fun g9 => ?_)
    · rw [if_neg g9] at h
      refine z_iinc (j := 3) (a3 + 1) [1, 2, 3, 0] [(0, .ref (n0 + o0)), (1, .int a1), (2, .int a2), (3, .int (a3 + 1))] dX0_leastSaid_34 rfl rfl (by decide) rfl ?_
      refine z_goto 5 dX0_leastSaid_37 (by decide) ?_
      exact h
    · rw [if_pos g9] at h
      refine z_iload_n 2 dX0_leastSaid_23 rfl ?_
      refine z_aload_n 0 dX0_leastSaid_24 rfl ?_
      obtain ⟨q10, q10e, h⟩ := h
      refine fg_0_27 (some q10) rfl dX0_leastSaid_25 o1 o2 q10e ?_
      refine z_iload_n 3 dX0_leastSaid_28 rfl ?_
      obtain ⟨n11, o12, o13, o14, h⟩ := h
      refine z_iald (I q10 a3.toNatClampNeg) dX0_leastSaid_29 o12 o13 o14 rfl ?_
      refine z_mmax dX0_leastSaid_30 wg_1242 (by omega) (Nat.le_of_ble_eq_true rfl) ?_
      refine z_istore_n [1, 2, 0, 3] [(0, .ref (n0 + o0)), (1, .int a1), (2, .int (if a2 < (I q10 a3.toNatClampNeg) then (I q10 a3.toNatClampNeg) else a2)), (3, .int a3)] dX0_leastSaid_33 (by decide) rfl ?_
      refine z_iinc (j := 3) (a3 + 1) [1, 2, 3, 0] [(0, .ref (n0 + o0)), (1, .int a1), (2, .int (if a2 < (I q10 a3.toNatClampNeg) then (I q10 a3.toNatClampNeg) else a2)), (3, .int (a3 + 1))] dX0_leastSaid_34 rfl rfl (by decide) rfl ?_
      refine z_goto 5 dX0_leastSaid_37 (by decide) ?_
      exact h
theorem dX0_mostSaid_0 : decode cX0_mostSaid 0 = .ok (.ldc 53, 2) := by decide +kernel
theorem dX0_mostSaid_2 : decode cX0_mostSaid 2 = .ok (.istore_n 2, 1) := by decide +kernel
theorem dX0_mostSaid_3 : decode cX0_mostSaid 3 = .ok (.iconst 0, 1) := by decide +kernel
theorem dX0_mostSaid_4 : decode cX0_mostSaid 4 = .ok (.istore_n 3, 1) := by decide +kernel
theorem dX0_mostSaid_5 : decode cX0_mostSaid 5 = .ok (.iload_n 3, 1) := by decide +kernel
theorem dX0_mostSaid_6 : decode cX0_mostSaid 6 = .ok (.aload_n 0, 1) := by decide +kernel
theorem dX0_mostSaid_7 : decode cX0_mostSaid 7 = .ok (.getfield 44, 3) := by decide +kernel
theorem dX0_mostSaid_10 : decode cX0_mostSaid 10 = .ok (.if_icmp .ge 30, 3) := by decide +kernel
theorem dX0_mostSaid_13 : decode cX0_mostSaid 13 = .ok (.aload_n 0, 1) := by decide +kernel
theorem dX0_mostSaid_14 : decode cX0_mostSaid 14 = .ok (.getfield 24, 3) := by decide +kernel
theorem dX0_mostSaid_17 : decode cX0_mostSaid 17 = .ok (.iload_n 3, 1) := by decide +kernel
theorem dX0_mostSaid_18 : decode cX0_mostSaid 18 = .ok (.iaload, 1) := by decide +kernel
theorem dX0_mostSaid_19 : decode cX0_mostSaid 19 = .ok (.iload_n 1, 1) := by decide +kernel
theorem dX0_mostSaid_20 : decode cX0_mostSaid 20 = .ok (.if_icmp .ne 14, 3) := by decide +kernel
theorem dX0_mostSaid_23 : decode cX0_mostSaid 23 = .ok (.iload_n 2, 1) := by decide +kernel
theorem dX0_mostSaid_24 : decode cX0_mostSaid 24 = .ok (.aload_n 0, 1) := by decide +kernel
theorem dX0_mostSaid_25 : decode cX0_mostSaid 25 = .ok (.getfield 30, 3) := by decide +kernel
theorem dX0_mostSaid_28 : decode cX0_mostSaid 28 = .ok (.iload_n 3, 1) := by decide +kernel
theorem dX0_mostSaid_29 : decode cX0_mostSaid 29 = .ok (.iaload, 1) := by decide +kernel
theorem dX0_mostSaid_30 : decode cX0_mostSaid 30 = .ok (.invokestatic 54, 3) := by decide +kernel
theorem dX0_mostSaid_33 : decode cX0_mostSaid 33 = .ok (.istore_n 2, 1) := by decide +kernel
theorem dX0_mostSaid_34 : decode cX0_mostSaid 34 = .ok (.iinc 3 1, 3) := by decide +kernel
theorem dX0_mostSaid_37 : decode cX0_mostSaid 37 = .ok (.goto (-32), 3) := by decide +kernel
theorem dX0_mostSaid_40 : decode cX0_mostSaid 40 = .ok (.iload_n 2, 1) := by decide +kernel
theorem dX0_mostSaid_41 : decode cX0_mostSaid 41 = .ok (.ireturn, 1) := by decide +kernel
set_option maxRecDepth 100000 in
set_option maxHeartbeats 4000000 in
theorem wp_X0_mostSaid {n0 d : Nat} {K : z_K} {I : z_I} {L : z_L} {Q : z_q} {o0 : Nat} {p0 : Int32} (h : Z n0 xX0_mostSaid (d + 1) 0 0 5 [(0, .ref (n0 + o0)), (1, .int p0), (2, .int 199998), (3, .int 0)] [] K I L (z_q0 K Q)) : RM0 n0 xX0_mostSaid (d + 1) [.ref (n0 + o0), .int p0] K I L Q := by
  refine z_entry0 (by decide) (Nat.le_of_ble_eq_true rfl) ?_
  change Z n0 xX0_mostSaid (d + 1) 0 0 0 [(0, .ref (n0 + o0)), (1, .int p0)] [] K I L (z_q0 K Q)
  refine z_ldc 199998 dX0_mostSaid_0 wg_1247 ?_
  refine z_istore_n [1, 2, 0] [(0, .ref (n0 + o0)), (1, .int p0), (2, .int 199998)] dX0_mostSaid_2 (by decide) rfl ?_
  refine z_iconst 0 dX0_mostSaid_3 (by decide) ?_
  refine z_istore_n [1, 2, 3, 0] [(0, .ref (n0 + o0)), (1, .int p0), (2, .int 199998), (3, .int 0)] dX0_mostSaid_4 (by decide) rfl ?_
  exact h
set_option maxRecDepth 100000 in
set_option maxHeartbeats 4000000 in
theorem wp_X0_mostSaid_5 {n0 d : Nat} {rc rs : Nat} {K : z_K} {I : z_I} {L : z_L} {Q : z_q} {o0 : Nat} {a1 : Int32} {a2 : Int32} {a3 : Int32} (h : o0 < K.1 ∧ (K.2.1 o0).1 = 0 ∧ (if a3 < (I o0 9) then (∃ q4, K.2.2 o0 6 = some q4 ∧ ∃ n5, q4 < K.1 ∧ K.2.1 q4 = (20, n5) ∧ vp_in a3 n5 ∧ (if ((I q4 a3.toNatClampNeg) : Int32) = a1 then (∃ q10, K.2.2 o0 8 = some q10 ∧ ∃ n11, q10 < K.1 ∧ K.2.1 q10 = (20, n11) ∧ vp_in a3 n11 ∧ Z n0 xX0_mostSaid (d + 1) rc rs 5 [(0, .ref (n0 + o0)), (1, .int a1), (2, .int (if (I q10 a3.toNatClampNeg) < a2 then (I q10 a3.toNatClampNeg) else a2)), (3, .int (a3 + 1))] [] K I L (z_q0 K Q)) else Z n0 xX0_mostSaid (d + 1) rc rs 5 [(0, .ref (n0 + o0)), (1, .int a1), (2, .int a2), (3, .int (a3 + 1))] [] K I L (z_q0 K Q))) else Q (some (.int a2)) I L)) : Z n0 xX0_mostSaid (d + 1) rc rs 5 [(0, .ref (n0 + o0)), (1, .int a1), (2, .int a2), (3, .int a3)] [] K I L (z_q0 K Q) := by
  refine z_iload_n 3 dX0_mostSaid_5 rfl ?_
  refine z_aload_n 0 dX0_mostSaid_6 rfl ?_
  obtain ⟨o1, o2, h⟩ := h
  refine fg_0_44 (I o0 9) rfl dX0_mostSaid_7 o1 o2 rfl ?_
  refine z_icmp_ge 40 dX0_mostSaid_10 (by decide) (fun g3 => ?_) (fun g3 => ?_)
  · rw [if_neg g3] at h
    refine z_iload_n 2 dX0_mostSaid_40 rfl ?_
    exact z_iret dX0_mostSaid_41 rfl ⟨rfl, h⟩
  · rw [if_pos g3] at h
    refine z_aload_n 0 dX0_mostSaid_13 rfl ?_
    obtain ⟨q4, q4e, h⟩ := h
    refine fg_0_24 (some q4) rfl dX0_mostSaid_14 o1 o2 q4e ?_
    refine z_iload_n 3 dX0_mostSaid_17 rfl ?_
    obtain ⟨n5, o6, o7, o8, h⟩ := h
    refine z_iald (I q4 a3.toNatClampNeg) dX0_mostSaid_18 o6 o7 o8 rfl ?_
    refine z_iload_n 1 dX0_mostSaid_19 rfl ?_
    refine z_icmp_ne 34 dX0_mostSaid_20 (by decide) (fun g9 => ?_) (fun g9 => ?_)
    · rw [if_neg g9] at h
      refine z_iinc (j := 3) (a3 + 1) [1, 2, 3, 0] [(0, .ref (n0 + o0)), (1, .int a1), (2, .int a2), (3, .int (a3 + 1))] dX0_mostSaid_34 rfl rfl (by decide) rfl ?_
      refine z_goto 5 dX0_mostSaid_37 (by decide) ?_
      exact h
    · rw [if_pos g9] at h
      refine z_iload_n 2 dX0_mostSaid_23 rfl ?_
      refine z_aload_n 0 dX0_mostSaid_24 rfl ?_
      obtain ⟨q10, q10e, h⟩ := h
      refine fg_0_30 (some q10) rfl dX0_mostSaid_25 o1 o2 q10e ?_
      refine z_iload_n 3 dX0_mostSaid_28 rfl ?_
      obtain ⟨n11, o12, o13, o14, h⟩ := h
      refine z_iald (I q10 a3.toNatClampNeg) dX0_mostSaid_29 o12 o13 o14 rfl ?_
      refine z_mmin dX0_mostSaid_30 wg_1248 (by omega) (Nat.le_of_ble_eq_true rfl) ?_
      refine z_istore_n [1, 2, 0, 3] [(0, .ref (n0 + o0)), (1, .int a1), (2, .int (if (I q10 a3.toNatClampNeg) < a2 then (I q10 a3.toNatClampNeg) else a2)), (3, .int a3)] dX0_mostSaid_33 (by decide) rfl ?_
      refine z_iinc (j := 3) (a3 + 1) [1, 2, 3, 0] [(0, .ref (n0 + o0)), (1, .int a1), (2, .int (if (I q10 a3.toNatClampNeg) < a2 then (I q10 a3.toNatClampNeg) else a2)), (3, .int (a3 + 1))] dX0_mostSaid_34 rfl rfl (by decide) rfl ?_
      refine z_goto 5 dX0_mostSaid_37 (by decide) ?_
      exact h
theorem dX1_add_0 : decode cX1_add 0 = .ok (.aload_n 0, 1) := by decide +kernel
theorem dX1_add_1 : decode cX1_add 1 = .ok (.getfield 18, 3) := by decide +kernel
theorem dX1_add_4 : decode cX1_add 4 = .ok (.iconst 2, 1) := by decide +kernel
theorem dX1_add_5 : decode cX1_add 5 = .ok (.if_icmp .lt 8, 3) := by decide +kernel
theorem dX1_add_8 : decode cX1_add 8 = .ok (.aload_n 0, 1) := by decide +kernel
theorem dX1_add_9 : decode cX1_add 9 = .ok (.getfield 18, 3) := by decide +kernel
theorem dX1_add_12 : decode cX1_add 12 = .ok (.ireturn, 1) := by decide +kernel
theorem dX1_add_13 : decode cX1_add 13 = .ok (.aload_n 0, 1) := by decide +kernel
theorem dX1_add_14 : decode cX1_add 14 = .ok (.getfield 18, 3) := by decide +kernel
theorem dX1_add_17 : decode cX1_add 17 = .ok (.bipush 6, 2) := by decide +kernel
theorem dX1_add_19 : decode cX1_add 19 = .ok (.imul, 1) := by decide +kernel
theorem dX1_add_20 : decode cX1_add 20 = .ok (.istore 8, 2) := by decide +kernel
theorem dX1_add_22 : decode cX1_add 22 = .ok (.aload_n 0, 1) := by decide +kernel
theorem dX1_add_23 : decode cX1_add 23 = .ok (.getfield 9, 3) := by decide +kernel
theorem dX1_add_26 : decode cX1_add 26 = .ok (.iload 8, 2) := by decide +kernel
theorem dX1_add_28 : decode cX1_add 28 = .ok (.iload_n 1, 1) := by decide +kernel
theorem dX1_add_29 : decode cX1_add 29 = .ok (.iastore, 1) := by decide +kernel
theorem dX1_add_30 : decode cX1_add 30 = .ok (.aload_n 0, 1) := by decide +kernel
theorem dX1_add_31 : decode cX1_add 31 = .ok (.getfield 9, 3) := by decide +kernel
theorem dX1_add_34 : decode cX1_add 34 = .ok (.iload 8, 2) := by decide +kernel
theorem dX1_add_36 : decode cX1_add 36 = .ok (.iconst 1, 1) := by decide +kernel
theorem dX1_add_37 : decode cX1_add 37 = .ok (.iadd, 1) := by decide +kernel
theorem dX1_add_38 : decode cX1_add 38 = .ok (.iload_n 2, 1) := by decide +kernel
theorem dX1_add_39 : decode cX1_add 39 = .ok (.iastore, 1) := by decide +kernel
theorem dX1_add_40 : decode cX1_add 40 = .ok (.aload_n 0, 1) := by decide +kernel
theorem dX1_add_41 : decode cX1_add 41 = .ok (.getfield 9, 3) := by decide +kernel
theorem dX1_add_44 : decode cX1_add 44 = .ok (.iload 8, 2) := by decide +kernel
theorem dX1_add_46 : decode cX1_add 46 = .ok (.iconst 2, 1) := by decide +kernel
theorem dX1_add_47 : decode cX1_add 47 = .ok (.iadd, 1) := by decide +kernel
theorem dX1_add_48 : decode cX1_add 48 = .ok (.iload_n 3, 1) := by decide +kernel
theorem dX1_add_49 : decode cX1_add 49 = .ok (.iastore, 1) := by decide +kernel
theorem dX1_add_50 : decode cX1_add 50 = .ok (.aload_n 0, 1) := by decide +kernel
theorem dX1_add_51 : decode cX1_add 51 = .ok (.getfield 9, 3) := by decide +kernel
theorem dX1_add_54 : decode cX1_add 54 = .ok (.iload 8, 2) := by decide +kernel
theorem dX1_add_56 : decode cX1_add 56 = .ok (.iconst 3, 1) := by decide +kernel
theorem dX1_add_57 : decode cX1_add 57 = .ok (.iadd, 1) := by decide +kernel
theorem dX1_add_58 : decode cX1_add 58 = .ok (.iload 4, 2) := by decide +kernel
theorem dX1_add_60 : decode cX1_add 60 = .ok (.iastore, 1) := by decide +kernel
theorem dX1_add_61 : decode cX1_add 61 = .ok (.aload_n 0, 1) := by decide +kernel
theorem dX1_add_62 : decode cX1_add 62 = .ok (.getfield 9, 3) := by decide +kernel
theorem dX1_add_65 : decode cX1_add 65 = .ok (.iload 8, 2) := by decide +kernel
theorem dX1_add_67 : decode cX1_add 67 = .ok (.iconst 4, 1) := by decide +kernel
theorem dX1_add_68 : decode cX1_add 68 = .ok (.iadd, 1) := by decide +kernel
theorem dX1_add_69 : decode cX1_add 69 = .ok (.iload 5, 2) := by decide +kernel
theorem dX1_add_71 : decode cX1_add 71 = .ok (.iastore, 1) := by decide +kernel
theorem dX1_add_72 : decode cX1_add 72 = .ok (.aload_n 0, 1) := by decide +kernel
theorem dX1_add_73 : decode cX1_add 73 = .ok (.getfield 9, 3) := by decide +kernel
theorem dX1_add_76 : decode cX1_add 76 = .ok (.iload 8, 2) := by decide +kernel
theorem dX1_add_78 : decode cX1_add 78 = .ok (.iconst 5, 1) := by decide +kernel
theorem dX1_add_79 : decode cX1_add 79 = .ok (.iadd, 1) := by decide +kernel
theorem dX1_add_80 : decode cX1_add 80 = .ok (.iload 6, 2) := by decide +kernel
theorem dX1_add_82 : decode cX1_add 82 = .ok (.iastore, 1) := by decide +kernel
theorem dX1_add_83 : decode cX1_add 83 = .ok (.aload_n 0, 1) := by decide +kernel
theorem dX1_add_84 : decode cX1_add 84 = .ok (.getfield 15, 3) := by decide +kernel
theorem dX1_add_87 : decode cX1_add 87 = .ok (.aload_n 0, 1) := by decide +kernel
theorem dX1_add_88 : decode cX1_add 88 = .ok (.getfield 18, 3) := by decide +kernel
theorem dX1_add_91 : decode cX1_add 91 = .ok (.iload 7, 2) := by decide +kernel
theorem dX1_add_93 : decode cX1_add 93 = .ok (.iastore, 1) := by decide +kernel
theorem dX1_add_94 : decode cX1_add 94 = .ok (.aload_n 0, 1) := by decide +kernel
theorem dX1_add_95 : decode cX1_add 95 = .ok (.dup, 1) := by decide +kernel
theorem dX1_add_96 : decode cX1_add 96 = .ok (.getfield 18, 3) := by decide +kernel
theorem dX1_add_99 : decode cX1_add 99 = .ok (.iconst 1, 1) := by decide +kernel
theorem dX1_add_100 : decode cX1_add 100 = .ok (.iadd, 1) := by decide +kernel
theorem dX1_add_101 : decode cX1_add 101 = .ok (.putfield 18, 3) := by decide +kernel
theorem dX1_add_104 : decode cX1_add 104 = .ok (.aload_n 0, 1) := by decide +kernel
theorem dX1_add_105 : decode cX1_add 105 = .ok (.getfield 18, 3) := by decide +kernel
theorem dX1_add_108 : decode cX1_add 108 = .ok (.ireturn, 1) := by decide +kernel
set_option maxRecDepth 100000 in
set_option maxHeartbeats 4000000 in
theorem wp_X1_add {n0 d : Nat} {K : z_K} {I : z_I} {L : z_L} {Q : z_q} {p0 : Int32} {p1 : Int32} {p2 : Int32} {p3 : Int32} {p4 : Int32} {p5 : Int32} {p6 : Int32} (hL : CLay K) (h : (if ((I 22 2) : Int32) < 2 then vp_in ((I 22 2) * 6) 12 ∧ vp_in (((I 22 2) * 6) + 1) 12 ∧ vp_in (((I 22 2) * 6) + 2) 12 ∧ vp_in (((I 22 2) * 6) + 3) 12 ∧ vp_in (((I 22 2) * 6) + 4) 12 ∧ vp_in (((I 22 2) * 6) + 5) 12 ∧ vp_in (I 22 2) 2 ∧ Q (some (.int (((I 22 2) + 1)))) (zI (zI (zI (zI (zI (zI (zI (zI I 23 (((I 22 2) * 6).toNatClampNeg) p0) 23 ((((I 22 2) * 6) + 1).toNatClampNeg) p1) 23 ((((I 22 2) * 6) + 2).toNatClampNeg) p2) 23 ((((I 22 2) * 6) + 3).toNatClampNeg) p3) 23 ((((I 22 2) * 6) + 4).toNatClampNeg) p4) 23 ((((I 22 2) * 6) + 5).toNatClampNeg) p5) 24 ((I 22 2).toNatClampNeg) p6) 22 2 ((I 22 2) + 1)) L else Q (some (.int (I 22 2))) I L)) : RM0 n0 xX1_add d [.ref (n0 + 22), .int p0, .int p1, .int p2, .int p3, .int p4, .int p5, .int p6] K I L Q := by
  refine z_entry0 (by decide) (Nat.le_of_ble_eq_true rfl) ?_
  change Z n0 xX1_add d 0 0 0 [(0, .ref (n0 + 22)), (1, .int p0), (2, .int p1), (3, .int p2), (4, .int p3), (5, .int p4), (6, .int p5), (7, .int p6)] [] K I L (z_q0 K Q)
  refine z_aload_n 0 dX1_add_0 rfl ?_
  refine fg_1_18 (I 22 2) rfl dX1_add_1 (co_22 hL).1 (co_22 hL).2 rfl ?_
  refine z_iconst 2 dX1_add_4 (by decide) ?_
  refine z_icmp_lt 13 dX1_add_5 (by decide) (fun g1 => ?_) (fun g1 => ?_)
  · rw [if_pos g1] at h
    refine z_aload_n 0 dX1_add_13 rfl ?_
    refine fg_1_18 (I 22 2) rfl dX1_add_14 (co_22 hL).1 (co_22 hL).2 rfl ?_
    refine z_bipush 6 dX1_add_17 (by decide) ?_
    refine z_imul dX1_add_19 ?_
    refine z_istore [1, 2, 3, 4, 5, 6, 7, 8, 0] [(0, .ref (n0 + 22)), (1, .int p0), (2, .int p1), (3, .int p2), (4, .int p3), (5, .int p4), (6, .int p5), (7, .int p6), (8, .int ((I 22 2) * 6))] dX1_add_20 (by decide) rfl ?_
    refine z_aload_n 0 dX1_add_22 rfl ?_
    refine fg_1_9 (some 23) rfl dX1_add_23 (co_22 hL).1 (co_22 hL).2 (ca_23 hL).1 ?_
    refine z_iload 8 dX1_add_26 rfl ?_
    refine z_iload_n 1 dX1_add_28 rfl ?_
    obtain ⟨o2, h⟩ := h
    refine z_iast dX1_add_29 (ca_23 hL).2.1 (ca_23 hL).2.2 o2 ?_
    refine z_aload_n 0 dX1_add_30 rfl ?_
    refine fg_1_9 (some 23) rfl dX1_add_31 (co_22 hL).1 (co_22 hL).2 (ca_23 hL).1 ?_
    refine z_iload 8 dX1_add_34 rfl ?_
    refine z_iconst 1 dX1_add_36 (by decide) ?_
    refine z_iadd dX1_add_37 ?_
    refine z_iload_n 2 dX1_add_38 rfl ?_
    obtain ⟨o3, h⟩ := h
    refine z_iast dX1_add_39 (ca_23 hL).2.1 (ca_23 hL).2.2 o3 ?_
    refine z_aload_n 0 dX1_add_40 rfl ?_
    refine fg_1_9 (some 23) rfl dX1_add_41 (co_22 hL).1 (co_22 hL).2 (ca_23 hL).1 ?_
    refine z_iload 8 dX1_add_44 rfl ?_
    refine z_iconst 2 dX1_add_46 (by decide) ?_
    refine z_iadd dX1_add_47 ?_
    refine z_iload_n 3 dX1_add_48 rfl ?_
    obtain ⟨o4, h⟩ := h
    refine z_iast dX1_add_49 (ca_23 hL).2.1 (ca_23 hL).2.2 o4 ?_
    refine z_aload_n 0 dX1_add_50 rfl ?_
    refine fg_1_9 (some 23) rfl dX1_add_51 (co_22 hL).1 (co_22 hL).2 (ca_23 hL).1 ?_
    refine z_iload 8 dX1_add_54 rfl ?_
    refine z_iconst 3 dX1_add_56 (by decide) ?_
    refine z_iadd dX1_add_57 ?_
    refine z_iload 4 dX1_add_58 rfl ?_
    obtain ⟨o5, h⟩ := h
    refine z_iast dX1_add_60 (ca_23 hL).2.1 (ca_23 hL).2.2 o5 ?_
    refine z_aload_n 0 dX1_add_61 rfl ?_
    refine fg_1_9 (some 23) rfl dX1_add_62 (co_22 hL).1 (co_22 hL).2 (ca_23 hL).1 ?_
    refine z_iload 8 dX1_add_65 rfl ?_
    refine z_iconst 4 dX1_add_67 (by decide) ?_
    refine z_iadd dX1_add_68 ?_
    refine z_iload 5 dX1_add_69 rfl ?_
    obtain ⟨o6, h⟩ := h
    refine z_iast dX1_add_71 (ca_23 hL).2.1 (ca_23 hL).2.2 o6 ?_
    refine z_aload_n 0 dX1_add_72 rfl ?_
    refine fg_1_9 (some 23) rfl dX1_add_73 (co_22 hL).1 (co_22 hL).2 (ca_23 hL).1 ?_
    refine z_iload 8 dX1_add_76 rfl ?_
    refine z_iconst 5 dX1_add_78 (by decide) ?_
    refine z_iadd dX1_add_79 ?_
    refine z_iload 6 dX1_add_80 rfl ?_
    obtain ⟨o7, h⟩ := h
    refine z_iast dX1_add_82 (ca_23 hL).2.1 (ca_23 hL).2.2 o7 ?_
    refine z_aload_n 0 dX1_add_83 rfl ?_
    refine fg_1_15 (some 24) rfl dX1_add_84 (co_22 hL).1 (co_22 hL).2 (ca_24 hL).1 ?_
    refine z_aload_n 0 dX1_add_87 rfl ?_
    refine fg_1_18 (I 22 2) rfl dX1_add_88 (co_22 hL).1 (co_22 hL).2 rfl ?_
    refine z_iload 7 dX1_add_91 rfl ?_
    obtain ⟨o8, h⟩ := h
    refine z_iast dX1_add_93 (ca_24 hL).2.1 (ca_24 hL).2.2 o8 ?_
    refine z_aload_n 0 dX1_add_94 rfl ?_
    refine z_dup dX1_add_95 rfl ?_
    refine fg_1_18 (I 22 2) rfl dX1_add_96 (co_22 hL).1 (co_22 hL).2 rfl ?_
    refine z_iconst 1 dX1_add_99 (by decide) ?_
    refine z_iadd dX1_add_100 ?_
    refine fp_1_18 rfl dX1_add_101 (co_22 hL).1 (co_22 hL).2 ?_
    refine z_aload_n 0 dX1_add_104 rfl ?_
    refine fg_1_18 (((I 22 2) + 1)) rfl dX1_add_105 (co_22 hL).1 (co_22 hL).2 rfl ?_
    exact z_iret dX1_add_108 rfl ⟨rfl, h⟩
  · rw [if_neg g1] at h
    refine z_aload_n 0 dX1_add_8 rfl ?_
    refine fg_1_18 (I 22 2) rfl dX1_add_9 (co_22 hL).1 (co_22 hL).2 rfl ?_
    exact z_iret dX1_add_12 rfl ⟨rfl, h⟩
theorem dX1_solve_0 : decode cX1_solve 0 = .ok (.aload_n 0, 1) := by decide +kernel
theorem dX1_solve_1 : decode cX1_solve 1 = .ok (.lconst 0, 1) := by decide +kernel
theorem dX1_solve_2 : decode cX1_solve 2 = .ok (.putfield 22, 3) := by decide +kernel
theorem dX1_solve_5 : decode cX1_solve 5 = .ok (.aload_n 0, 1) := by decide +kernel
theorem dX1_solve_6 : decode cX1_solve 6 = .ok (.lconst 1, 1) := by decide +kernel
theorem dX1_solve_7 : decode cX1_solve 7 = .ok (.putfield 26, 3) := by decide +kernel
theorem dX1_solve_10 : decode cX1_solve 10 = .ok (.aload_n 0, 1) := by decide +kernel
theorem dX1_solve_11 : decode cX1_solve 11 = .ok (.getfield 18, 3) := by decide +kernel
theorem dX1_solve_14 : decode cX1_solve 14 = .ok (.ifCond .ne 5, 3) := by decide +kernel
theorem dX1_solve_17 : decode cX1_solve 17 = .ok (.iconst 1, 1) := by decide +kernel
theorem dX1_solve_18 : decode cX1_solve 18 = .ok (.ireturn, 1) := by decide +kernel
theorem dX1_solve_19 : decode cX1_solve 19 = .ok (.aload_n 0, 1) := by decide +kernel
theorem dX1_solve_20 : decode cX1_solve 20 = .ok (.getfield 18, 3) := by decide +kernel
theorem dX1_solve_23 : decode cX1_solve 23 = .ok (.iconst 1, 1) := by decide +kernel
theorem dX1_solve_24 : decode cX1_solve 24 = .ok (.if_icmp .ne 10, 3) := by decide +kernel
theorem dX1_solve_27 : decode cX1_solve 27 = .ok (.aload_n 0, 1) := by decide +kernel
theorem dX1_solve_28 : decode cX1_solve 28 = .ok (.iconst 0, 1) := by decide +kernel
theorem dX1_solve_29 : decode cX1_solve 29 = .ok (.iload_n 1, 1) := by decide +kernel
theorem dX1_solve_30 : decode cX1_solve 30 = .ok (.invokevirtual 29, 3) := by decide +kernel
theorem dX1_solve_33 : decode cX1_solve 33 = .ok (.ireturn, 1) := by decide +kernel
theorem dX1_solve_34 : decode cX1_solve 34 = .ok (.aload_n 0, 1) := by decide +kernel
theorem dX1_solve_35 : decode cX1_solve 35 = .ok (.iconst 0, 1) := by decide +kernel
theorem dX1_solve_36 : decode cX1_solve 36 = .ok (.iconst 0, 1) := by decide +kernel
theorem dX1_solve_37 : decode cX1_solve 37 = .ok (.invokevirtual 33, 3) := by decide +kernel
theorem dX1_solve_40 : decode cX1_solve 40 = .ok (.lstore_n 2, 1) := by decide +kernel
theorem dX1_solve_41 : decode cX1_solve 41 = .ok (.aload_n 0, 1) := by decide +kernel
theorem dX1_solve_42 : decode cX1_solve 42 = .ok (.iconst 0, 1) := by decide +kernel
theorem dX1_solve_43 : decode cX1_solve 43 = .ok (.iconst 1, 1) := by decide +kernel
theorem dX1_solve_44 : decode cX1_solve 44 = .ok (.invokevirtual 33, 3) := by decide +kernel
theorem dX1_solve_47 : decode cX1_solve 47 = .ok (.lstore 4, 2) := by decide +kernel
theorem dX1_solve_49 : decode cX1_solve 49 = .ok (.aload_n 0, 1) := by decide +kernel
theorem dX1_solve_50 : decode cX1_solve 50 = .ok (.iconst 1, 1) := by decide +kernel
theorem dX1_solve_51 : decode cX1_solve 51 = .ok (.iconst 1, 1) := by decide +kernel
theorem dX1_solve_52 : decode cX1_solve 52 = .ok (.invokevirtual 33, 3) := by decide +kernel
theorem dX1_solve_55 : decode cX1_solve 55 = .ok (.lstore 6, 2) := by decide +kernel
theorem dX1_solve_57 : decode cX1_solve 57 = .ok (.lload_n 2, 1) := by decide +kernel
theorem dX1_solve_58 : decode cX1_solve 58 = .ok (.lload 6, 2) := by decide +kernel
theorem dX1_solve_60 : decode cX1_solve 60 = .ok (.lmul, 1) := by decide +kernel
theorem dX1_solve_61 : decode cX1_solve 61 = .ok (.lload 4, 2) := by decide +kernel
theorem dX1_solve_63 : decode cX1_solve 63 = .ok (.lload 4, 2) := by decide +kernel
theorem dX1_solve_65 : decode cX1_solve 65 = .ok (.lmul, 1) := by decide +kernel
theorem dX1_solve_66 : decode cX1_solve 66 = .ok (.lsub, 1) := by decide +kernel
theorem dX1_solve_67 : decode cX1_solve 67 = .ok (.lstore 8, 2) := by decide +kernel
theorem dX1_solve_69 : decode cX1_solve 69 = .ok (.lload 8, 2) := by decide +kernel
theorem dX1_solve_71 : decode cX1_solve 71 = .ok (.lconst 0, 1) := by decide +kernel
theorem dX1_solve_72 : decode cX1_solve 72 = .ok (.lcmp, 1) := by decide +kernel
theorem dX1_solve_73 : decode cX1_solve 73 = .ok (.ifCond .ne 38, 3) := by decide +kernel
theorem dX1_solve_76 : decode cX1_solve 76 = .ok (.aload_n 0, 1) := by decide +kernel
theorem dX1_solve_77 : decode cX1_solve 77 = .ok (.lload_n 2, 1) := by decide +kernel
theorem dX1_solve_78 : decode cX1_solve 78 = .ok (.lload 6, 2) := by decide +kernel
theorem dX1_solve_80 : decode cX1_solve 80 = .ok (.invokevirtual 37, 3) := by decide +kernel
theorem dX1_solve_83 : decode cX1_solve 83 = .ok (.ifCond .eq 26, 3) := by decide +kernel
theorem dX1_solve_86 : decode cX1_solve 86 = .ok (.aload_n 0, 1) := by decide +kernel
theorem dX1_solve_87 : decode cX1_solve 87 = .ok (.lload_n 2, 1) := by decide +kernel
theorem dX1_solve_88 : decode cX1_solve 88 = .ok (.lconst 0, 1) := by decide +kernel
theorem dX1_solve_89 : decode cX1_solve 89 = .ok (.lcmp, 1) := by decide +kernel
theorem dX1_solve_90 : decode cX1_solve 90 = .ok (.ifCond .eq 7, 3) := by decide +kernel
theorem dX1_solve_93 : decode cX1_solve 93 = .ok (.iconst 0, 1) := by decide +kernel
theorem dX1_solve_94 : decode cX1_solve 94 = .ok (.goto 4, 3) := by decide +kernel
theorem dX1_solve_97 : decode cX1_solve 97 = .ok (.iconst 1, 1) := by decide +kernel
theorem dX1_solve_98 : decode cX1_solve 98 = .ok (.iload_n 1, 1) := by decide +kernel
theorem dX1_solve_99 : decode cX1_solve 99 = .ok (.invokevirtual 29, 3) := by decide +kernel
theorem dX1_solve_102 : decode cX1_solve 102 = .ok (.ifCond .eq 7, 3) := by decide +kernel
theorem dX1_solve_105 : decode cX1_solve 105 = .ok (.iconst 1, 1) := by decide +kernel
theorem dX1_solve_106 : decode cX1_solve 106 = .ok (.goto 4, 3) := by decide +kernel
theorem dX1_solve_109 : decode cX1_solve 109 = .ok (.iconst 0, 1) := by decide +kernel
theorem dX1_solve_110 : decode cX1_solve 110 = .ok (.ireturn, 1) := by decide +kernel
theorem dX1_solve_111 : decode cX1_solve 111 = .ok (.lload 6, 2) := by decide +kernel
theorem dX1_solve_113 : decode cX1_solve 113 = .ok (.aload_n 0, 1) := by decide +kernel
theorem dX1_solve_114 : decode cX1_solve 114 = .ok (.getfield 15, 3) := by decide +kernel
theorem dX1_solve_117 : decode cX1_solve 117 = .ok (.iconst 0, 1) := by decide +kernel
theorem dX1_solve_118 : decode cX1_solve 118 = .ok (.iaload, 1) := by decide +kernel
theorem dX1_solve_119 : decode cX1_solve 119 = .ok (.i2l, 1) := by decide +kernel
theorem dX1_solve_120 : decode cX1_solve 120 = .ok (.lmul, 1) := by decide +kernel
theorem dX1_solve_121 : decode cX1_solve 121 = .ok (.lload 4, 2) := by decide +kernel
theorem dX1_solve_123 : decode cX1_solve 123 = .ok (.aload_n 0, 1) := by decide +kernel
theorem dX1_solve_124 : decode cX1_solve 124 = .ok (.getfield 15, 3) := by decide +kernel
theorem dX1_solve_127 : decode cX1_solve 127 = .ok (.iconst 1, 1) := by decide +kernel
theorem dX1_solve_128 : decode cX1_solve 128 = .ok (.iaload, 1) := by decide +kernel
theorem dX1_solve_129 : decode cX1_solve 129 = .ok (.i2l, 1) := by decide +kernel
theorem dX1_solve_130 : decode cX1_solve 130 = .ok (.lmul, 1) := by decide +kernel
theorem dX1_solve_131 : decode cX1_solve 131 = .ok (.lsub, 1) := by decide +kernel
theorem dX1_solve_132 : decode cX1_solve 132 = .ok (.lstore 10, 2) := by decide +kernel
theorem dX1_solve_134 : decode cX1_solve 134 = .ok (.lload_n 2, 1) := by decide +kernel
theorem dX1_solve_135 : decode cX1_solve 135 = .ok (.aload_n 0, 1) := by decide +kernel
theorem dX1_solve_136 : decode cX1_solve 136 = .ok (.getfield 15, 3) := by decide +kernel
theorem dX1_solve_139 : decode cX1_solve 139 = .ok (.iconst 1, 1) := by decide +kernel
theorem dX1_solve_140 : decode cX1_solve 140 = .ok (.iaload, 1) := by decide +kernel
theorem dX1_solve_141 : decode cX1_solve 141 = .ok (.i2l, 1) := by decide +kernel
theorem dX1_solve_142 : decode cX1_solve 142 = .ok (.lmul, 1) := by decide +kernel
theorem dX1_solve_143 : decode cX1_solve 143 = .ok (.lload 4, 2) := by decide +kernel
theorem dX1_solve_145 : decode cX1_solve 145 = .ok (.aload_n 0, 1) := by decide +kernel
theorem dX1_solve_146 : decode cX1_solve 146 = .ok (.getfield 15, 3) := by decide +kernel
theorem dX1_solve_149 : decode cX1_solve 149 = .ok (.iconst 0, 1) := by decide +kernel
theorem dX1_solve_150 : decode cX1_solve 150 = .ok (.iaload, 1) := by decide +kernel
theorem dX1_solve_151 : decode cX1_solve 151 = .ok (.i2l, 1) := by decide +kernel
theorem dX1_solve_152 : decode cX1_solve 152 = .ok (.lmul, 1) := by decide +kernel
theorem dX1_solve_153 : decode cX1_solve 153 = .ok (.lsub, 1) := by decide +kernel
theorem dX1_solve_154 : decode cX1_solve 154 = .ok (.lstore 12, 2) := by decide +kernel
theorem dX1_solve_156 : decode cX1_solve 156 = .ok (.aload_n 0, 1) := by decide +kernel
theorem dX1_solve_157 : decode cX1_solve 157 = .ok (.aload_n 0, 1) := by decide +kernel
theorem dX1_solve_158 : decode cX1_solve 158 = .ok (.getfield 9, 3) := by decide +kernel
theorem dX1_solve_161 : decode cX1_solve 161 = .ok (.iload_n 1, 1) := by decide +kernel
theorem dX1_solve_162 : decode cX1_solve 162 = .ok (.iaload, 1) := by decide +kernel
theorem dX1_solve_163 : decode cX1_solve 163 = .ok (.i2l, 1) := by decide +kernel
theorem dX1_solve_164 : decode cX1_solve 164 = .ok (.lload 10, 2) := by decide +kernel
theorem dX1_solve_166 : decode cX1_solve 166 = .ok (.lmul, 1) := by decide +kernel
theorem dX1_solve_167 : decode cX1_solve 167 = .ok (.aload_n 0, 1) := by decide +kernel
theorem dX1_solve_168 : decode cX1_solve 168 = .ok (.getfield 9, 3) := by decide +kernel
theorem dX1_solve_171 : decode cX1_solve 171 = .ok (.bipush 6, 2) := by decide +kernel
theorem dX1_solve_173 : decode cX1_solve 173 = .ok (.iload_n 1, 1) := by decide +kernel
theorem dX1_solve_174 : decode cX1_solve 174 = .ok (.iadd, 1) := by decide +kernel
theorem dX1_solve_175 : decode cX1_solve 175 = .ok (.iaload, 1) := by decide +kernel
theorem dX1_solve_176 : decode cX1_solve 176 = .ok (.i2l, 1) := by decide +kernel
theorem dX1_solve_177 : decode cX1_solve 177 = .ok (.lload 12, 2) := by decide +kernel
theorem dX1_solve_179 : decode cX1_solve 179 = .ok (.lmul, 1) := by decide +kernel
theorem dX1_solve_180 : decode cX1_solve 180 = .ok (.ladd, 1) := by decide +kernel
theorem dX1_solve_181 : decode cX1_solve 181 = .ok (.lload 8, 2) := by decide +kernel
theorem dX1_solve_183 : decode cX1_solve 183 = .ok (.invokevirtual 41, 3) := by decide +kernel
theorem dX1_solve_186 : decode cX1_solve 186 = .ok (.iconst 1, 1) := by decide +kernel
theorem dX1_solve_187 : decode cX1_solve 187 = .ok (.ireturn, 1) := by decide +kernel
set_option maxRecDepth 100000 in
set_option maxHeartbeats 4000000 in
theorem wp_X1_solve {n0 d : Nat} {K : z_K} {I : z_I} {L : z_L} {Q : z_q} {p0 : Int32} (hL : CLay K) (h : (if ((I 22 2) : Int32) = 0 then Q (some (.int 1)) I (zL (zL L 22 3 0) 22 4 1) else (if ((I 22 2) : Int32) = 1 then RM0 n0 xX1_solveOne d [.ref (n0 + 22), .int 0, .int p0] K I (zL (zL L 22 3 0) 22 4 1) (fun vv I32 L33 => ∃ r34 : Int32, vv = some (.int r34) ∧ z_b r34 ∧ Q (some (.int r34)) I32 L33) else RM0 n0 xX1_product d [.ref (n0 + 22), .int 0, .int 0] K I (zL (zL L 22 3 0) 22 4 1) (fun vv I3 L4 => ∃ r5 : Int64, vv = some (.long r5) ∧ RM0 n0 xX1_product d [.ref (n0 + 22), .int 0, .int 1] K I3 L4 (fun vv I6 L7 => ∃ r8 : Int64, vv = some (.long r8) ∧ RM0 n0 xX1_product d [.ref (n0 + 22), .int 1, .int 1] K I6 L7 (fun vv I9 L10 => ∃ r11 : Int64, vv = some (.long r11) ∧ (if (((r5 * r11) - (r8 * r8)) : Int64) = 0 then RM0 n0 xX1_agree d [.ref (n0 + 22), .long r5, .long r11] K I9 L10 (fun vv I17 L18 => ∃ r19 : Int32, vv = some (.int r19) ∧ (if r19 = 0 then Q (some (.int 0)) I17 L18 else (if r5 = 0 then RM0 n0 xX1_solveOne d [.ref (n0 + 22), .int 1, .int p0] K I17 L18 (fun vv I22 L23 => ∃ r24 : Int32, vv = some (.int r24) ∧ Q (some (.int (if r24 = 0 then 0 else 1))) I22 L23) else RM0 n0 xX1_solveOne d [.ref (n0 + 22), .int 0, .int p0] K I17 L18 (fun vv I27 L28 => ∃ r29 : Int32, vv = some (.int r29) ∧ Q (some (.int (if r29 = 0 then 0 else 1))) I27 L28)))) else vp_in p0 12 ∧ vp_in (6 + p0) 12 ∧ RM0 n0 xX1_setFraction d [.ref (n0 + 22), .long (((((I9 23 p0.toNatClampNeg) : Int32).toInt64) * ((r11 * (((I9 24 0) : Int32).toInt64)) - (r8 * (((I9 24 1) : Int32).toInt64)))) + ((((I9 23 ((6 + p0).toNatClampNeg)) : Int32).toInt64) * ((r5 * (((I9 24 1) : Int32).toInt64)) - (r8 * (((I9 24 0) : Int32).toInt64))))), .long ((r5 * r11) - (r8 * r8))] K I9 L10 (fun vv I15 L16 => vv = none ∧ Q (some (.int 1)) I15 L16)))))))) : RM0 n0 xX1_solve (d + 1) [.ref (n0 + 22), .int p0] K I L Q := by
  refine z_entry0 (by decide) (Nat.le_of_ble_eq_true rfl) ?_
  change Z n0 xX1_solve (d + 1) 0 0 0 [(0, .ref (n0 + 22)), (1, .int p0)] [] K I L (z_q0 K Q)
  refine z_aload_n 0 dX1_solve_0 rfl ?_
  refine z_lconst 0 dX1_solve_1 (by decide) ?_
  refine fp_1_22 rfl dX1_solve_2 (co_22 hL).1 (co_22 hL).2 ?_
  refine z_aload_n 0 dX1_solve_5 rfl ?_
  refine z_lconst 1 dX1_solve_6 (by decide) ?_
  refine fp_1_26 rfl dX1_solve_7 (co_22 hL).1 (co_22 hL).2 ?_
  refine z_aload_n 0 dX1_solve_10 rfl ?_
  refine fg_1_18 (I 22 2) rfl dX1_solve_11 (co_22 hL).1 (co_22 hL).2 rfl ?_
  refine z_if_ne 19 dX1_solve_14 (by decide) (fun g1 => ?_) (fun g1 => ?_)
  · rw [if_neg g1] at h
    refine z_aload_n 0 dX1_solve_19 rfl ?_
    refine fg_1_18 (I 22 2) rfl dX1_solve_20 (co_22 hL).1 (co_22 hL).2 rfl ?_
    refine z_iconst 1 dX1_solve_23 (by decide) ?_
    refine z_icmp_ne 34 dX1_solve_24 (by decide) (fun g2 => ?_) (fun g2 => ?_)
    · rw [if_neg g2] at h
      refine z_aload_n 0 dX1_solve_34 rfl ?_
      refine z_iconst 0 dX1_solve_35 (by decide) ?_
      refine z_iconst 0 dX1_solve_36 (by decide) ?_
      refine z_callV0 (As := [.int 0, .int 0]) (st := []) dX1_solve_37 hy_X1_product (co_22 hL).1 (co_22 hL).2 (by decide) wg_1077 wg_1079 wg_32 (Nat.le_refl _) (Nat.le_of_ble_eq_true rfl) (RM0.mono h ?_)
      clear h
      intro vv I3 L4 h
      obtain ⟨r5, rfl, h⟩ := h
      change Z n0 xX1_solve (d + 1) 0 0 40 [(0, .ref (n0 + 22)), (1, .int p0)] [.long r5] K I3 L4 (z_q0 K Q)
      refine z_lstore_n [1, 2, 0] [(0, .ref (n0 + 22)), (1, .int p0), (2, .long r5)] dX1_solve_40 (by decide) rfl ?_
      refine z_aload_n 0 dX1_solve_41 rfl ?_
      refine z_iconst 0 dX1_solve_42 (by decide) ?_
      refine z_iconst 1 dX1_solve_43 (by decide) ?_
      refine z_callV0 (As := [.int 0, .int 1]) (st := []) dX1_solve_44 hy_X1_product (co_22 hL).1 (co_22 hL).2 (by decide) wg_1077 wg_1079 wg_32 (Nat.le_refl _) (Nat.le_of_ble_eq_true rfl) (RM0.mono h ?_)
      clear h
      intro vv I6 L7 h
      obtain ⟨r8, rfl, h⟩ := h
      change Z n0 xX1_solve (d + 1) 0 0 47 [(0, .ref (n0 + 22)), (1, .int p0), (2, .long r5)] [.long r8] K I6 L7 (z_q0 K Q)
      refine z_lstore [1, 2, 3, 0] [(0, .ref (n0 + 22)), (1, .int p0), (2, .long r5), (4, .long r8)] dX1_solve_47 (by decide) rfl ?_
      refine z_aload_n 0 dX1_solve_49 rfl ?_
      refine z_iconst 1 dX1_solve_50 (by decide) ?_
      refine z_iconst 1 dX1_solve_51 (by decide) ?_
      refine z_callV0 (As := [.int 1, .int 1]) (st := []) dX1_solve_52 hy_X1_product (co_22 hL).1 (co_22 hL).2 (by decide) wg_1077 wg_1079 wg_32 (Nat.le_refl _) (Nat.le_of_ble_eq_true rfl) (RM0.mono h ?_)
      clear h
      intro vv I9 L10 h
      obtain ⟨r11, rfl, h⟩ := h
      change Z n0 xX1_solve (d + 1) 0 0 55 [(0, .ref (n0 + 22)), (1, .int p0), (2, .long r5), (4, .long r8)] [.long r11] K I9 L10 (z_q0 K Q)
      refine z_lstore [1, 2, 3, 4, 0] [(0, .ref (n0 + 22)), (1, .int p0), (2, .long r5), (4, .long r8), (6, .long r11)] dX1_solve_55 (by decide) rfl ?_
      refine z_lload_n 2 dX1_solve_57 rfl ?_
      refine z_lload 4 dX1_solve_58 rfl ?_
      refine z_lmul dX1_solve_60 ?_
      refine z_lload 3 dX1_solve_61 rfl ?_
      refine z_lload 3 dX1_solve_63 rfl ?_
      refine z_lmul dX1_solve_65 ?_
      refine z_lsub dX1_solve_66 ?_
      refine z_lstore [1, 2, 3, 4, 5, 0] [(0, .ref (n0 + 22)), (1, .int p0), (2, .long r5), (4, .long r8), (6, .long r11), (8, .long ((r5 * r11) - (r8 * r8)))] dX1_solve_67 (by decide) rfl ?_
      refine z_lload 5 dX1_solve_69 rfl ?_
      refine z_lconst 0 dX1_solve_71 (by decide) ?_
      refine z_lif_ne 111 dX1_solve_72 dX1_solve_73 (by decide) (fun g12 => ?_) (fun g12 => ?_)
      · rw [if_neg g12] at h
        refine z_lload 4 dX1_solve_111 rfl ?_
        refine z_aload_n 0 dX1_solve_113 rfl ?_
        refine fg_1_15 (some 24) rfl dX1_solve_114 (co_22 hL).1 (co_22 hL).2 (ca_24 hL).1 ?_
        refine z_iconst 0 dX1_solve_117 (by decide) ?_
        refine z_iald (I9 24 0) dX1_solve_118 (ca_24 hL).2.1 (ca_24 hL).2.2 (by unfold vp_in; decide) rfl ?_
        refine z_i2l dX1_solve_119 ?_
        refine z_lmul dX1_solve_120 ?_
        refine z_lload 3 dX1_solve_121 rfl ?_
        refine z_aload_n 0 dX1_solve_123 rfl ?_
        refine fg_1_15 (some 24) rfl dX1_solve_124 (co_22 hL).1 (co_22 hL).2 (ca_24 hL).1 ?_
        refine z_iconst 1 dX1_solve_127 (by decide) ?_
        refine z_iald (I9 24 1) dX1_solve_128 (ca_24 hL).2.1 (ca_24 hL).2.2 (by unfold vp_in; decide) rfl ?_
        refine z_i2l dX1_solve_129 ?_
        refine z_lmul dX1_solve_130 ?_
        refine z_lsub dX1_solve_131 ?_
        refine z_lstore [1, 2, 3, 4, 5, 6, 0] [(0, .ref (n0 + 22)), (1, .int p0), (2, .long r5), (4, .long r8), (6, .long r11), (8, .long ((r5 * r11) - (r8 * r8))), (10, .long ((r11 * (((I9 24 0) : Int32).toInt64)) - (r8 * (((I9 24 1) : Int32).toInt64))))] dX1_solve_132 (by decide) rfl ?_
        refine z_lload_n 2 dX1_solve_134 rfl ?_
        refine z_aload_n 0 dX1_solve_135 rfl ?_
        refine fg_1_15 (some 24) rfl dX1_solve_136 (co_22 hL).1 (co_22 hL).2 (ca_24 hL).1 ?_
        refine z_iconst 1 dX1_solve_139 (by decide) ?_
        refine z_iald (I9 24 1) dX1_solve_140 (ca_24 hL).2.1 (ca_24 hL).2.2 (by unfold vp_in; decide) rfl ?_
        refine z_i2l dX1_solve_141 ?_
        refine z_lmul dX1_solve_142 ?_
        refine z_lload 3 dX1_solve_143 rfl ?_
        refine z_aload_n 0 dX1_solve_145 rfl ?_
        refine fg_1_15 (some 24) rfl dX1_solve_146 (co_22 hL).1 (co_22 hL).2 (ca_24 hL).1 ?_
        refine z_iconst 0 dX1_solve_149 (by decide) ?_
        refine z_iald (I9 24 0) dX1_solve_150 (ca_24 hL).2.1 (ca_24 hL).2.2 (by unfold vp_in; decide) rfl ?_
        refine z_i2l dX1_solve_151 ?_
        refine z_lmul dX1_solve_152 ?_
        refine z_lsub dX1_solve_153 ?_
        refine z_lstore [1, 2, 3, 4, 5, 6, 7, 0] [(0, .ref (n0 + 22)), (1, .int p0), (2, .long r5), (4, .long r8), (6, .long r11), (8, .long ((r5 * r11) - (r8 * r8))), (10, .long ((r11 * (((I9 24 0) : Int32).toInt64)) - (r8 * (((I9 24 1) : Int32).toInt64)))), (12, .long ((r5 * (((I9 24 1) : Int32).toInt64)) - (r8 * (((I9 24 0) : Int32).toInt64))))] dX1_solve_154 (by decide) rfl ?_
        refine z_aload_n 0 dX1_solve_156 rfl ?_
        refine z_aload_n 0 dX1_solve_157 rfl ?_
        refine fg_1_9 (some 23) rfl dX1_solve_158 (co_22 hL).1 (co_22 hL).2 (ca_23 hL).1 ?_
        refine z_iload_n 1 dX1_solve_161 rfl ?_
        obtain ⟨o13, h⟩ := h
        refine z_iald (I9 23 p0.toNatClampNeg) dX1_solve_162 (ca_23 hL).2.1 (ca_23 hL).2.2 o13 rfl ?_
        refine z_i2l dX1_solve_163 ?_
        refine z_lload 6 dX1_solve_164 rfl ?_
        refine z_lmul dX1_solve_166 ?_
        refine z_aload_n 0 dX1_solve_167 rfl ?_
        refine fg_1_9 (some 23) rfl dX1_solve_168 (co_22 hL).1 (co_22 hL).2 (ca_23 hL).1 ?_
        refine z_bipush 6 dX1_solve_171 (by decide) ?_
        refine z_iload_n 1 dX1_solve_173 rfl ?_
        refine z_iadd dX1_solve_174 ?_
        obtain ⟨o14, h⟩ := h
        refine z_iald (I9 23 ((6 + p0).toNatClampNeg)) dX1_solve_175 (ca_23 hL).2.1 (ca_23 hL).2.2 o14 rfl ?_
        refine z_i2l dX1_solve_176 ?_
        refine z_lload 7 dX1_solve_177 rfl ?_
        refine z_lmul dX1_solve_179 ?_
        refine z_ladd dX1_solve_180 ?_
        refine z_lload 5 dX1_solve_181 rfl ?_
        refine z_callV0 (As := [.long (((((I9 23 p0.toNatClampNeg) : Int32).toInt64) * ((r11 * (((I9 24 0) : Int32).toInt64)) - (r8 * (((I9 24 1) : Int32).toInt64)))) + ((((I9 23 ((6 + p0).toNatClampNeg)) : Int32).toInt64) * ((r5 * (((I9 24 1) : Int32).toInt64)) - (r8 * (((I9 24 0) : Int32).toInt64))))), .long ((r5 * r11) - (r8 * r8))]) (st := []) dX1_solve_183 hy_X1_setFraction (co_22 hL).1 (co_22 hL).2 (by decide) wg_1081 wg_1083 wg_33 (Nat.le_refl _) (Nat.le_of_ble_eq_true rfl) (RM0.mono h ?_)
        clear h
        intro vv I15 L16 h
        obtain ⟨rfl, h⟩ := h
        change Z n0 xX1_solve (d + 1) 0 0 186 [(0, .ref (n0 + 22)), (1, .int p0), (2, .long r5), (4, .long r8), (6, .long r11), (8, .long ((r5 * r11) - (r8 * r8))), (10, .long ((r11 * (((I9 24 0) : Int32).toInt64)) - (r8 * (((I9 24 1) : Int32).toInt64)))), (12, .long ((r5 * (((I9 24 1) : Int32).toInt64)) - (r8 * (((I9 24 0) : Int32).toInt64))))] [] K I15 L16 (z_q0 K Q)
        refine z_iconst 1 dX1_solve_186 (by decide) ?_
        exact z_zretb dX1_solve_187 rfl (Or.inr rfl) ⟨rfl, h⟩
      · rw [if_pos g12] at h
        refine z_aload_n 0 dX1_solve_76 rfl ?_
        refine z_lload_n 2 dX1_solve_77 rfl ?_
        refine z_lload 4 dX1_solve_78 rfl ?_
        refine z_callV0 (As := [.long r5, .long r11]) (st := []) dX1_solve_80 hy_X1_agree (co_22 hL).1 (co_22 hL).2 (by decide) wg_1086 wg_1088 wg_34 (Nat.le_refl _) (Nat.le_of_ble_eq_true rfl) (RM0.mono h ?_)
        clear h
        intro vv I17 L18 h
        obtain ⟨r19, rfl, h⟩ := h
        change Z n0 xX1_solve (d + 1) 0 0 83 [(0, .ref (n0 + 22)), (1, .int p0), (2, .long r5), (4, .long r8), (6, .long r11), (8, .long ((r5 * r11) - (r8 * r8)))] [.int r19] K I17 L18 (z_q0 K Q)
        refine z_if_eq 109 dX1_solve_83 (by decide) (fun g20 => ?_) (fun g20 => ?_)
        · rw [if_pos g20] at h
          refine z_iconst 0 dX1_solve_109 (by decide) ?_
          exact z_zretb dX1_solve_110 rfl (Or.inl rfl) ⟨rfl, h⟩
        · rw [if_neg g20] at h
          refine z_aload_n 0 dX1_solve_86 rfl ?_
          refine z_lload_n 2 dX1_solve_87 rfl ?_
          refine z_lconst 0 dX1_solve_88 (by decide) ?_
          refine z_lif_eq 97 dX1_solve_89 dX1_solve_90 (by decide) (fun g21 => ?_) (fun g21 => ?_)
          · rw [if_pos g21] at h
            refine z_iconst 1 dX1_solve_97 (by decide) ?_
            refine z_iload_n 1 dX1_solve_98 rfl ?_
            refine z_callV0 (As := [.int 1, .int p0]) (st := []) dX1_solve_99 hy_X1_solveOne (co_22 hL).1 (co_22 hL).2 (by decide) wg_1073 wg_1075 wg_31 (Nat.le_refl _) (Nat.le_of_ble_eq_true rfl) (RM0.mono h ?_)
            clear h
            intro vv I22 L23 h
            obtain ⟨r24, rfl, h⟩ := h
            change Z n0 xX1_solve (d + 1) 0 0 102 [(0, .ref (n0 + 22)), (1, .int p0), (2, .long r5), (4, .long r8), (6, .long r11), (8, .long ((r5 * r11) - (r8 * r8)))] [.int r24] K I22 L23 (z_q0 K Q)
            have key26 : Z n0 xX1_solve (d + 1) 0 0 110 [] [.int (if r24 = 0 then 0 else 1)] K I22 L23 (z_q0 K Q) := by
              exact z_zretb dX1_solve_110 rfl (z_bite (by repeat' (first | exact Or.inl rfl | exact Or.inr rfl | split))) ⟨rfl, h⟩
            refine z_if_eq 109 dX1_solve_102 (by decide) (fun g25 => ?_) (fun g25 => ?_)
            · refine z_iconst 0 dX1_solve_109 (by decide) ?_
              have ee : ((if r24 = 0 then 0 else 1) : Int32) = 0 := by rw [if_pos g25]
              rw [ee] at key26
              clear ee
              refine z_sub [] rfl ?_
              exact key26
            · refine z_iconst 1 dX1_solve_105 (by decide) ?_
              refine z_goto 110 dX1_solve_106 (by decide) ?_
              have ee : ((if r24 = 0 then 0 else 1) : Int32) = 1 := by rw [if_neg g25]
              rw [ee] at key26
              clear ee
              refine z_sub [] rfl ?_
              exact key26
          · rw [if_neg g21] at h
            refine z_iconst 0 dX1_solve_93 (by decide) ?_
            refine z_goto 98 dX1_solve_94 (by decide) ?_
            refine z_iload_n 1 dX1_solve_98 rfl ?_
            refine z_callV0 (As := [.int 0, .int p0]) (st := []) dX1_solve_99 hy_X1_solveOne (co_22 hL).1 (co_22 hL).2 (by decide) wg_1073 wg_1075 wg_31 (Nat.le_refl _) (Nat.le_of_ble_eq_true rfl) (RM0.mono h ?_)
            clear h
            intro vv I27 L28 h
            obtain ⟨r29, rfl, h⟩ := h
            change Z n0 xX1_solve (d + 1) 0 0 102 [(0, .ref (n0 + 22)), (1, .int p0), (2, .long r5), (4, .long r8), (6, .long r11), (8, .long ((r5 * r11) - (r8 * r8)))] [.int r29] K I27 L28 (z_q0 K Q)
            have key31 : Z n0 xX1_solve (d + 1) 0 0 110 [] [.int (if r29 = 0 then 0 else 1)] K I27 L28 (z_q0 K Q) := by
              exact z_zretb dX1_solve_110 rfl (z_bite (by repeat' (first | exact Or.inl rfl | exact Or.inr rfl | split))) ⟨rfl, h⟩
            refine z_if_eq 109 dX1_solve_102 (by decide) (fun g30 => ?_) (fun g30 => ?_)
            · refine z_iconst 0 dX1_solve_109 (by decide) ?_
              have ee : ((if r29 = 0 then 0 else 1) : Int32) = 0 := by rw [if_pos g30]
              rw [ee] at key31
              clear ee
              refine z_sub [] rfl ?_
              exact key31
            · refine z_iconst 1 dX1_solve_105 (by decide) ?_
              refine z_goto 110 dX1_solve_106 (by decide) ?_
              have ee : ((if r29 = 0 then 0 else 1) : Int32) = 1 := by rw [if_neg g30]
              rw [ee] at key31
              clear ee
              refine z_sub [] rfl ?_
              exact key31
    · rw [if_pos g2] at h
      refine z_aload_n 0 dX1_solve_27 rfl ?_
      refine z_iconst 0 dX1_solve_28 (by decide) ?_
      refine z_iload_n 1 dX1_solve_29 rfl ?_
      refine z_callV0 (As := [.int 0, .int p0]) (st := []) dX1_solve_30 hy_X1_solveOne (co_22 hL).1 (co_22 hL).2 (by decide) wg_1073 wg_1075 wg_31 (Nat.le_refl _) (Nat.le_of_ble_eq_true rfl) (RM0.mono h ?_)
      clear h
      intro vv I32 L33 h
      obtain ⟨r34, rfl, h⟩ := h
      change Z n0 xX1_solve (d + 1) 0 0 33 [(0, .ref (n0 + 22)), (1, .int p0)] [.int r34] K I32 L33 (z_q0 K Q)
      obtain ⟨o35, h⟩ := h
      exact z_zretb dX1_solve_33 rfl o35 ⟨rfl, h⟩
  · rw [if_pos g1] at h
    refine z_iconst 1 dX1_solve_17 (by decide) ?_
    exact z_zretb dX1_solve_18 rfl (Or.inr rfl) ⟨rfl, h⟩
theorem dX1_solveOne_0 : decode cX1_solveOne 0 = .ok (.aload_n 0, 1) := by decide +kernel
theorem dX1_solveOne_1 : decode cX1_solveOne 1 = .ok (.iload_n 1, 1) := by decide +kernel
theorem dX1_solveOne_2 : decode cX1_solveOne 2 = .ok (.iload_n 1, 1) := by decide +kernel
theorem dX1_solveOne_3 : decode cX1_solveOne 3 = .ok (.invokevirtual 33, 3) := by decide +kernel
theorem dX1_solveOne_6 : decode cX1_solveOne 6 = .ok (.lstore_n 3, 1) := by decide +kernel
theorem dX1_solveOne_7 : decode cX1_solveOne 7 = .ok (.lload_n 3, 1) := by decide +kernel
theorem dX1_solveOne_8 : decode cX1_solveOne 8 = .ok (.lconst 0, 1) := by decide +kernel
theorem dX1_solveOne_9 : decode cX1_solveOne 9 = .ok (.lcmp, 1) := by decide +kernel
theorem dX1_solveOne_10 : decode cX1_solveOne 10 = .ok (.ifCond .ne 18, 3) := by decide +kernel
theorem dX1_solveOne_13 : decode cX1_solveOne 13 = .ok (.aload_n 0, 1) := by decide +kernel
theorem dX1_solveOne_14 : decode cX1_solveOne 14 = .ok (.getfield 15, 3) := by decide +kernel
theorem dX1_solveOne_17 : decode cX1_solveOne 17 = .ok (.iload_n 1, 1) := by decide +kernel
theorem dX1_solveOne_18 : decode cX1_solveOne 18 = .ok (.iaload, 1) := by decide +kernel
theorem dX1_solveOne_19 : decode cX1_solveOne 19 = .ok (.ifCond .ne 7, 3) := by decide +kernel
theorem dX1_solveOne_22 : decode cX1_solveOne 22 = .ok (.iconst 1, 1) := by decide +kernel
theorem dX1_solveOne_23 : decode cX1_solveOne 23 = .ok (.goto 4, 3) := by decide +kernel
theorem dX1_solveOne_26 : decode cX1_solveOne 26 = .ok (.iconst 0, 1) := by decide +kernel
theorem dX1_solveOne_27 : decode cX1_solveOne 27 = .ok (.ireturn, 1) := by decide +kernel
theorem dX1_solveOne_28 : decode cX1_solveOne 28 = .ok (.aload_n 0, 1) := by decide +kernel
theorem dX1_solveOne_29 : decode cX1_solveOne 29 = .ok (.aload_n 0, 1) := by decide +kernel
theorem dX1_solveOne_30 : decode cX1_solveOne 30 = .ok (.getfield 9, 3) := by decide +kernel
theorem dX1_solveOne_33 : decode cX1_solveOne 33 = .ok (.iload_n 1, 1) := by decide +kernel
theorem dX1_solveOne_34 : decode cX1_solveOne 34 = .ok (.bipush 6, 2) := by decide +kernel
theorem dX1_solveOne_36 : decode cX1_solveOne 36 = .ok (.imul, 1) := by decide +kernel
theorem dX1_solveOne_37 : decode cX1_solveOne 37 = .ok (.iload_n 2, 1) := by decide +kernel
theorem dX1_solveOne_38 : decode cX1_solveOne 38 = .ok (.iadd, 1) := by decide +kernel
theorem dX1_solveOne_39 : decode cX1_solveOne 39 = .ok (.iaload, 1) := by decide +kernel
theorem dX1_solveOne_40 : decode cX1_solveOne 40 = .ok (.i2l, 1) := by decide +kernel
theorem dX1_solveOne_41 : decode cX1_solveOne 41 = .ok (.aload_n 0, 1) := by decide +kernel
theorem dX1_solveOne_42 : decode cX1_solveOne 42 = .ok (.getfield 15, 3) := by decide +kernel
theorem dX1_solveOne_45 : decode cX1_solveOne 45 = .ok (.iload_n 1, 1) := by decide +kernel
theorem dX1_solveOne_46 : decode cX1_solveOne 46 = .ok (.iaload, 1) := by decide +kernel
theorem dX1_solveOne_47 : decode cX1_solveOne 47 = .ok (.i2l, 1) := by decide +kernel
theorem dX1_solveOne_48 : decode cX1_solveOne 48 = .ok (.lmul, 1) := by decide +kernel
theorem dX1_solveOne_49 : decode cX1_solveOne 49 = .ok (.lload_n 3, 1) := by decide +kernel
theorem dX1_solveOne_50 : decode cX1_solveOne 50 = .ok (.invokevirtual 41, 3) := by decide +kernel
theorem dX1_solveOne_53 : decode cX1_solveOne 53 = .ok (.iconst 1, 1) := by decide +kernel
theorem dX1_solveOne_54 : decode cX1_solveOne 54 = .ok (.ireturn, 1) := by decide +kernel
set_option maxRecDepth 100000 in
set_option maxHeartbeats 4000000 in
theorem wp_X1_solveOne {n0 d : Nat} {K : z_K} {I : z_I} {L : z_L} {Q : z_q} {p0 : Int32} {p1 : Int32} (hL : CLay K) (h : RM0 n0 xX1_product d [.ref (n0 + 22), .int p0, .int p0] K I L (fun vv I1 L2 => ∃ r3 : Int64, vv = some (.long r3) ∧ (if r3 = 0 then vp_in p0 2 ∧ Q (some (.int (if ((I1 24 p0.toNatClampNeg) : Int32) = 0 then 1 else 0))) I1 L2 else vp_in ((p0 * 6) + p1) 12 ∧ vp_in p0 2 ∧ RM0 n0 xX1_setFraction d [.ref (n0 + 22), .long ((((I1 23 (((p0 * 6) + p1).toNatClampNeg)) : Int32).toInt64) * (((I1 24 p0.toNatClampNeg) : Int32).toInt64)), .long r3] K I1 L2 (fun vv I7 L8 => vv = none ∧ Q (some (.int 1)) I7 L8)))) : RM0 n0 xX1_solveOne (d + 1) [.ref (n0 + 22), .int p0, .int p1] K I L Q := by
  refine z_entry0 (by decide) (Nat.le_of_ble_eq_true rfl) ?_
  change Z n0 xX1_solveOne (d + 1) 0 0 0 [(0, .ref (n0 + 22)), (1, .int p0), (2, .int p1)] [] K I L (z_q0 K Q)
  refine z_aload_n 0 dX1_solveOne_0 rfl ?_
  refine z_iload_n 1 dX1_solveOne_1 rfl ?_
  refine z_iload_n 1 dX1_solveOne_2 rfl ?_
  refine z_callV0 (As := [.int p0, .int p0]) (st := []) dX1_solveOne_3 hy_X1_product (co_22 hL).1 (co_22 hL).2 (by decide) wg_1077 wg_1079 wg_32 (Nat.le_refl _) (Nat.le_of_ble_eq_true rfl) (RM0.mono h ?_)
  clear h
  intro vv I1 L2 h
  obtain ⟨r3, rfl, h⟩ := h
  change Z n0 xX1_solveOne (d + 1) 0 0 6 [(0, .ref (n0 + 22)), (1, .int p0), (2, .int p1)] [.long r3] K I1 L2 (z_q0 K Q)
  refine z_lstore_n [1, 2, 3, 0] [(0, .ref (n0 + 22)), (1, .int p0), (2, .int p1), (3, .long r3)] dX1_solveOne_6 (by decide) rfl ?_
  refine z_lload_n 3 dX1_solveOne_7 rfl ?_
  refine z_lconst 0 dX1_solveOne_8 (by decide) ?_
  refine z_lif_ne 28 dX1_solveOne_9 dX1_solveOne_10 (by decide) (fun g4 => ?_) (fun g4 => ?_)
  · rw [if_neg g4] at h
    refine z_aload_n 0 dX1_solveOne_28 rfl ?_
    refine z_aload_n 0 dX1_solveOne_29 rfl ?_
    refine fg_1_9 (some 23) rfl dX1_solveOne_30 (co_22 hL).1 (co_22 hL).2 (ca_23 hL).1 ?_
    refine z_iload_n 1 dX1_solveOne_33 rfl ?_
    refine z_bipush 6 dX1_solveOne_34 (by decide) ?_
    refine z_imul dX1_solveOne_36 ?_
    refine z_iload_n 2 dX1_solveOne_37 rfl ?_
    refine z_iadd dX1_solveOne_38 ?_
    obtain ⟨o5, h⟩ := h
    refine z_iald (I1 23 (((p0 * 6) + p1).toNatClampNeg)) dX1_solveOne_39 (ca_23 hL).2.1 (ca_23 hL).2.2 o5 rfl ?_
    refine z_i2l dX1_solveOne_40 ?_
    refine z_aload_n 0 dX1_solveOne_41 rfl ?_
    refine fg_1_15 (some 24) rfl dX1_solveOne_42 (co_22 hL).1 (co_22 hL).2 (ca_24 hL).1 ?_
    refine z_iload_n 1 dX1_solveOne_45 rfl ?_
    obtain ⟨o6, h⟩ := h
    refine z_iald (I1 24 p0.toNatClampNeg) dX1_solveOne_46 (ca_24 hL).2.1 (ca_24 hL).2.2 o6 rfl ?_
    refine z_i2l dX1_solveOne_47 ?_
    refine z_lmul dX1_solveOne_48 ?_
    refine z_lload_n 3 dX1_solveOne_49 rfl ?_
    refine z_callV0 (As := [.long ((((I1 23 (((p0 * 6) + p1).toNatClampNeg)) : Int32).toInt64) * (((I1 24 p0.toNatClampNeg) : Int32).toInt64)), .long r3]) (st := []) dX1_solveOne_50 hy_X1_setFraction (co_22 hL).1 (co_22 hL).2 (by decide) wg_1081 wg_1083 wg_33 (Nat.le_refl _) (Nat.le_of_ble_eq_true rfl) (RM0.mono h ?_)
    clear h
    intro vv I7 L8 h
    obtain ⟨rfl, h⟩ := h
    change Z n0 xX1_solveOne (d + 1) 0 0 53 [(0, .ref (n0 + 22)), (1, .int p0), (2, .int p1), (3, .long r3)] [] K I7 L8 (z_q0 K Q)
    refine z_iconst 1 dX1_solveOne_53 (by decide) ?_
    exact z_zretb dX1_solveOne_54 rfl (Or.inr rfl) ⟨rfl, h⟩
  · rw [if_pos g4] at h
    refine z_aload_n 0 dX1_solveOne_13 rfl ?_
    refine fg_1_15 (some 24) rfl dX1_solveOne_14 (co_22 hL).1 (co_22 hL).2 (ca_24 hL).1 ?_
    refine z_iload_n 1 dX1_solveOne_17 rfl ?_
    obtain ⟨o9, h⟩ := h
    refine z_iald (I1 24 p0.toNatClampNeg) dX1_solveOne_18 (ca_24 hL).2.1 (ca_24 hL).2.2 o9 rfl ?_
    have key11 : Z n0 xX1_solveOne (d + 1) 0 0 27 [] [.int (if ((I1 24 p0.toNatClampNeg) : Int32) = 0 then 1 else 0)] K I1 L2 (z_q0 K Q) := by
      exact z_zretb dX1_solveOne_27 rfl (z_bite (by repeat' (first | exact Or.inl rfl | exact Or.inr rfl | split))) ⟨rfl, h⟩
    refine z_if_ne 26 dX1_solveOne_19 (by decide) (fun g10 => ?_) (fun g10 => ?_)
    · refine z_iconst 0 dX1_solveOne_26 (by decide) ?_
      have ee : ((if ((I1 24 p0.toNatClampNeg) : Int32) = 0 then 1 else 0) : Int32) = 0 := by rw [if_neg g10]
      rw [ee] at key11
      clear ee
      refine z_sub [] rfl ?_
      exact key11
    · refine z_iconst 1 dX1_solveOne_22 (by decide) ?_
      refine z_goto 27 dX1_solveOne_23 (by decide) ?_
      have ee : ((if ((I1 24 p0.toNatClampNeg) : Int32) = 0 then 1 else 0) : Int32) = 1 := by rw [if_pos g10]
      rw [ee] at key11
      clear ee
      refine z_sub [] rfl ?_
      exact key11
theorem dX1_agree_0 : decode cX1_agree 0 = .ok (.lload_n 1, 1) := by decide +kernel
theorem dX1_agree_1 : decode cX1_agree 1 = .ok (.lconst 0, 1) := by decide +kernel
theorem dX1_agree_2 : decode cX1_agree 2 = .ok (.lcmp, 1) := by decide +kernel
theorem dX1_agree_3 : decode cX1_agree 3 = .ok (.ifCond .ne 12, 3) := by decide +kernel
theorem dX1_agree_6 : decode cX1_agree 6 = .ok (.aload_n 0, 1) := by decide +kernel
theorem dX1_agree_7 : decode cX1_agree 7 = .ok (.getfield 15, 3) := by decide +kernel
theorem dX1_agree_10 : decode cX1_agree 10 = .ok (.iconst 0, 1) := by decide +kernel
theorem dX1_agree_11 : decode cX1_agree 11 = .ok (.iaload, 1) := by decide +kernel
theorem dX1_agree_12 : decode cX1_agree 12 = .ok (.ifCond .ne 18, 3) := by decide +kernel
theorem dX1_agree_15 : decode cX1_agree 15 = .ok (.lload_n 3, 1) := by decide +kernel
theorem dX1_agree_16 : decode cX1_agree 16 = .ok (.lconst 0, 1) := by decide +kernel
theorem dX1_agree_17 : decode cX1_agree 17 = .ok (.lcmp, 1) := by decide +kernel
theorem dX1_agree_18 : decode cX1_agree 18 = .ok (.ifCond .ne 14, 3) := by decide +kernel
theorem dX1_agree_21 : decode cX1_agree 21 = .ok (.aload_n 0, 1) := by decide +kernel
theorem dX1_agree_22 : decode cX1_agree 22 = .ok (.getfield 15, 3) := by decide +kernel
theorem dX1_agree_25 : decode cX1_agree 25 = .ok (.iconst 1, 1) := by decide +kernel
theorem dX1_agree_26 : decode cX1_agree 26 = .ok (.iaload, 1) := by decide +kernel
theorem dX1_agree_27 : decode cX1_agree 27 = .ok (.ifCond .eq 5, 3) := by decide +kernel
theorem dX1_agree_30 : decode cX1_agree 30 = .ok (.iconst 0, 1) := by decide +kernel
theorem dX1_agree_31 : decode cX1_agree 31 = .ok (.ireturn, 1) := by decide +kernel
theorem dX1_agree_32 : decode cX1_agree 32 = .ok (.iconst 0, 1) := by decide +kernel
theorem dX1_agree_33 : decode cX1_agree 33 = .ok (.istore 5, 2) := by decide +kernel
theorem dX1_agree_35 : decode cX1_agree 35 = .ok (.iload 5, 2) := by decide +kernel
theorem dX1_agree_37 : decode cX1_agree 37 = .ok (.bipush 6, 2) := by decide +kernel
theorem dX1_agree_39 : decode cX1_agree 39 = .ok (.if_icmp .ge 45, 3) := by decide +kernel
theorem dX1_agree_42 : decode cX1_agree 42 = .ok (.aload_n 0, 1) := by decide +kernel
theorem dX1_agree_43 : decode cX1_agree 43 = .ok (.getfield 9, 3) := by decide +kernel
theorem dX1_agree_46 : decode cX1_agree 46 = .ok (.iload 5, 2) := by decide +kernel
theorem dX1_agree_48 : decode cX1_agree 48 = .ok (.iaload, 1) := by decide +kernel
theorem dX1_agree_49 : decode cX1_agree 49 = .ok (.aload_n 0, 1) := by decide +kernel
theorem dX1_agree_50 : decode cX1_agree 50 = .ok (.getfield 15, 3) := by decide +kernel
theorem dX1_agree_53 : decode cX1_agree 53 = .ok (.iconst 1, 1) := by decide +kernel
theorem dX1_agree_54 : decode cX1_agree 54 = .ok (.iaload, 1) := by decide +kernel
theorem dX1_agree_55 : decode cX1_agree 55 = .ok (.imul, 1) := by decide +kernel
theorem dX1_agree_56 : decode cX1_agree 56 = .ok (.aload_n 0, 1) := by decide +kernel
theorem dX1_agree_57 : decode cX1_agree 57 = .ok (.getfield 9, 3) := by decide +kernel
theorem dX1_agree_60 : decode cX1_agree 60 = .ok (.bipush 6, 2) := by decide +kernel
theorem dX1_agree_62 : decode cX1_agree 62 = .ok (.iload 5, 2) := by decide +kernel
theorem dX1_agree_64 : decode cX1_agree 64 = .ok (.iadd, 1) := by decide +kernel
theorem dX1_agree_65 : decode cX1_agree 65 = .ok (.iaload, 1) := by decide +kernel
theorem dX1_agree_66 : decode cX1_agree 66 = .ok (.aload_n 0, 1) := by decide +kernel
theorem dX1_agree_67 : decode cX1_agree 67 = .ok (.getfield 15, 3) := by decide +kernel
theorem dX1_agree_70 : decode cX1_agree 70 = .ok (.iconst 0, 1) := by decide +kernel
theorem dX1_agree_71 : decode cX1_agree 71 = .ok (.iaload, 1) := by decide +kernel
theorem dX1_agree_72 : decode cX1_agree 72 = .ok (.imul, 1) := by decide +kernel
theorem dX1_agree_73 : decode cX1_agree 73 = .ok (.if_icmp .eq 5, 3) := by decide +kernel
theorem dX1_agree_76 : decode cX1_agree 76 = .ok (.iconst 0, 1) := by decide +kernel
theorem dX1_agree_77 : decode cX1_agree 77 = .ok (.ireturn, 1) := by decide +kernel
theorem dX1_agree_78 : decode cX1_agree 78 = .ok (.iinc 5 1, 3) := by decide +kernel
theorem dX1_agree_81 : decode cX1_agree 81 = .ok (.goto (-46), 3) := by decide +kernel
theorem dX1_agree_84 : decode cX1_agree 84 = .ok (.iconst 1, 1) := by decide +kernel
theorem dX1_agree_85 : decode cX1_agree 85 = .ok (.ireturn, 1) := by decide +kernel
set_option maxRecDepth 100000 in
set_option maxHeartbeats 4000000 in
theorem wp_X1_agree {n0 d : Nat} {K : z_K} {I : z_I} {L : z_L} {Q : z_q} {p0 : Int64} {p1 : Int64} (hL : CLay K) (h : (if p0 = 0 then (if ((I 24 0) : Int32) = 0 then (if p1 = 0 then (if ((I 24 1) : Int32) = 0 then Z n0 xX1_agree d 0 0 35 [(0, .ref (n0 + 22)), (5, .int 0)] [] K I L (z_q0 K Q) else Q (some (.int 0)) I L) else Z n0 xX1_agree d 0 0 35 [(0, .ref (n0 + 22)), (5, .int 0)] [] K I L (z_q0 K Q)) else Q (some (.int 0)) I L) else (if p1 = 0 then (if ((I 24 1) : Int32) = 0 then Z n0 xX1_agree d 0 0 35 [(0, .ref (n0 + 22)), (5, .int 0)] [] K I L (z_q0 K Q) else Q (some (.int 0)) I L) else Z n0 xX1_agree d 0 0 35 [(0, .ref (n0 + 22)), (5, .int 0)] [] K I L (z_q0 K Q)))) : RM0 n0 xX1_agree d [.ref (n0 + 22), .long p0, .long p1] K I L Q := by
  refine z_entry0 (by decide) (Nat.le_of_ble_eq_true rfl) ?_
  change Z n0 xX1_agree d 0 0 0 [(0, .ref (n0 + 22)), (1, .long p0), (3, .long p1)] [] K I L (z_q0 K Q)
  refine z_lload_n 1 dX1_agree_0 rfl ?_
  refine z_lconst 0 dX1_agree_1 (by decide) ?_
  refine z_lif_ne 15 dX1_agree_2 dX1_agree_3 (by decide) (fun g1 => ?_) (fun g1 => ?_)
  · rw [if_neg g1] at h
    refine z_lload_n 2 dX1_agree_15 rfl ?_
    refine z_lconst 0 dX1_agree_16 (by decide) ?_
    refine z_lif_ne 32 dX1_agree_17 dX1_agree_18 (by decide) (fun g2 => ?_) (fun g2 => ?_)
    · rw [if_neg g2] at h
      refine z_iconst 0 dX1_agree_32 (by decide) ?_
      refine z_istore [1, 2, 3, 0] [(0, .ref (n0 + 22)), (1, .long p0), (3, .long p1), (5, .int 0)] dX1_agree_33 (by decide) rfl ?_
      refine z_sub [0, 3] rfl ?_
      exact h
    · rw [if_pos g2] at h
      refine z_aload_n 0 dX1_agree_21 rfl ?_
      refine fg_1_15 (some 24) rfl dX1_agree_22 (co_22 hL).1 (co_22 hL).2 (ca_24 hL).1 ?_
      refine z_iconst 1 dX1_agree_25 (by decide) ?_
      refine z_iald (I 24 1) dX1_agree_26 (ca_24 hL).2.1 (ca_24 hL).2.2 (by unfold vp_in; decide) rfl ?_
      refine z_if_eq 32 dX1_agree_27 (by decide) (fun g3 => ?_) (fun g3 => ?_)
      · rw [if_pos g3] at h
        refine z_iconst 0 dX1_agree_32 (by decide) ?_
        refine z_istore [1, 2, 3, 0] [(0, .ref (n0 + 22)), (1, .long p0), (3, .long p1), (5, .int 0)] dX1_agree_33 (by decide) rfl ?_
        refine z_sub [0, 3] rfl ?_
        exact h
      · rw [if_neg g3] at h
        refine z_iconst 0 dX1_agree_30 (by decide) ?_
        exact z_zretb dX1_agree_31 rfl (Or.inl rfl) ⟨rfl, h⟩
  · rw [if_pos g1] at h
    refine z_aload_n 0 dX1_agree_6 rfl ?_
    refine fg_1_15 (some 24) rfl dX1_agree_7 (co_22 hL).1 (co_22 hL).2 (ca_24 hL).1 ?_
    refine z_iconst 0 dX1_agree_10 (by decide) ?_
    refine z_iald (I 24 0) dX1_agree_11 (ca_24 hL).2.1 (ca_24 hL).2.2 (by unfold vp_in; decide) rfl ?_
    refine z_if_ne 30 dX1_agree_12 (by decide) (fun g4 => ?_) (fun g4 => ?_)
    · rw [if_neg g4] at h
      refine z_iconst 0 dX1_agree_30 (by decide) ?_
      exact z_zretb dX1_agree_31 rfl (Or.inl rfl) ⟨rfl, h⟩
    · rw [if_pos g4] at h
      refine z_lload_n 2 dX1_agree_15 rfl ?_
      refine z_lconst 0 dX1_agree_16 (by decide) ?_
      refine z_lif_ne 32 dX1_agree_17 dX1_agree_18 (by decide) (fun g5 => ?_) (fun g5 => ?_)
      · rw [if_neg g5] at h
        refine z_iconst 0 dX1_agree_32 (by decide) ?_
        refine z_istore [1, 2, 3, 0] [(0, .ref (n0 + 22)), (1, .long p0), (3, .long p1), (5, .int 0)] dX1_agree_33 (by decide) rfl ?_
        refine z_sub [0, 3] rfl ?_
        exact h
      · rw [if_pos g5] at h
        refine z_aload_n 0 dX1_agree_21 rfl ?_
        refine fg_1_15 (some 24) rfl dX1_agree_22 (co_22 hL).1 (co_22 hL).2 (ca_24 hL).1 ?_
        refine z_iconst 1 dX1_agree_25 (by decide) ?_
        refine z_iald (I 24 1) dX1_agree_26 (ca_24 hL).2.1 (ca_24 hL).2.2 (by unfold vp_in; decide) rfl ?_
        refine z_if_eq 32 dX1_agree_27 (by decide) (fun g6 => ?_) (fun g6 => ?_)
        · rw [if_pos g6] at h
          refine z_iconst 0 dX1_agree_32 (by decide) ?_
          refine z_istore [1, 2, 3, 0] [(0, .ref (n0 + 22)), (1, .long p0), (3, .long p1), (5, .int 0)] dX1_agree_33 (by decide) rfl ?_
          refine z_sub [0, 3] rfl ?_
          exact h
        · rw [if_neg g6] at h
          refine z_iconst 0 dX1_agree_30 (by decide) ?_
          exact z_zretb dX1_agree_31 rfl (Or.inl rfl) ⟨rfl, h⟩
set_option maxRecDepth 100000 in
set_option maxHeartbeats 4000000 in
theorem wp_X1_agree_35 {n0 d : Nat} {rc rs : Nat} {K : z_K} {I : z_I} {L : z_L} {Q : z_q} {a5 : Int32} (hL : CLay K) (h : (if a5 < 6 then vp_in a5 12 ∧ vp_in (6 + a5) 12 ∧ (if (((I 23 a5.toNatClampNeg) * (I 24 1)) : Int32) = ((I 23 ((6 + a5).toNatClampNeg)) * (I 24 0)) then Z n0 xX1_agree d rc rs 35 [(0, .ref (n0 + 22)), (5, .int (a5 + 1))] [] K I L (z_q0 K Q) else Q (some (.int 0)) I L) else Q (some (.int 1)) I L)) : Z n0 xX1_agree d rc rs 35 [(0, .ref (n0 + 22)), (5, .int a5)] [] K I L (z_q0 K Q) := by
  refine z_iload 1 dX1_agree_35 rfl ?_
  refine z_bipush 6 dX1_agree_37 (by decide) ?_
  refine z_icmp_ge 84 dX1_agree_39 (by decide) (fun g1 => ?_) (fun g1 => ?_)
  · rw [if_neg g1] at h
    refine z_iconst 1 dX1_agree_84 (by decide) ?_
    exact z_zretb dX1_agree_85 rfl (Or.inr rfl) ⟨rfl, h⟩
  · rw [if_pos g1] at h
    refine z_aload_n 0 dX1_agree_42 rfl ?_
    refine fg_1_9 (some 23) rfl dX1_agree_43 (co_22 hL).1 (co_22 hL).2 (ca_23 hL).1 ?_
    refine z_iload 1 dX1_agree_46 rfl ?_
    obtain ⟨o2, h⟩ := h
    refine z_iald (I 23 a5.toNatClampNeg) dX1_agree_48 (ca_23 hL).2.1 (ca_23 hL).2.2 o2 rfl ?_
    refine z_aload_n 0 dX1_agree_49 rfl ?_
    refine fg_1_15 (some 24) rfl dX1_agree_50 (co_22 hL).1 (co_22 hL).2 (ca_24 hL).1 ?_
    refine z_iconst 1 dX1_agree_53 (by decide) ?_
    refine z_iald (I 24 1) dX1_agree_54 (ca_24 hL).2.1 (ca_24 hL).2.2 (by unfold vp_in; decide) rfl ?_
    refine z_imul dX1_agree_55 ?_
    refine z_aload_n 0 dX1_agree_56 rfl ?_
    refine fg_1_9 (some 23) rfl dX1_agree_57 (co_22 hL).1 (co_22 hL).2 (ca_23 hL).1 ?_
    refine z_bipush 6 dX1_agree_60 (by decide) ?_
    refine z_iload 1 dX1_agree_62 rfl ?_
    refine z_iadd dX1_agree_64 ?_
    obtain ⟨o3, h⟩ := h
    refine z_iald (I 23 ((6 + a5).toNatClampNeg)) dX1_agree_65 (ca_23 hL).2.1 (ca_23 hL).2.2 o3 rfl ?_
    refine z_aload_n 0 dX1_agree_66 rfl ?_
    refine fg_1_15 (some 24) rfl dX1_agree_67 (co_22 hL).1 (co_22 hL).2 (ca_24 hL).1 ?_
    refine z_iconst 0 dX1_agree_70 (by decide) ?_
    refine z_iald (I 24 0) dX1_agree_71 (ca_24 hL).2.1 (ca_24 hL).2.2 (by unfold vp_in; decide) rfl ?_
    refine z_imul dX1_agree_72 ?_
    refine z_icmp_eq 78 dX1_agree_73 (by decide) (fun g4 => ?_) (fun g4 => ?_)
    · rw [if_pos g4] at h
      refine z_iinc (j := 1) (a5 + 1) [1, 0] [(0, .ref (n0 + 22)), (5, .int (a5 + 1))] dX1_agree_78 rfl rfl (by decide) rfl ?_
      refine z_goto 35 dX1_agree_81 (by decide) ?_
      exact h
    · rw [if_neg g4] at h
      refine z_iconst 0 dX1_agree_76 (by decide) ?_
      exact z_zretb dX1_agree_77 rfl (Or.inl rfl) ⟨rfl, h⟩
theorem dX1_product_0 : decode cX1_product 0 = .ok (.lconst 0, 1) := by decide +kernel
theorem dX1_product_1 : decode cX1_product 1 = .ok (.lstore_n 3, 1) := by decide +kernel
theorem dX1_product_2 : decode cX1_product 2 = .ok (.iconst 0, 1) := by decide +kernel
theorem dX1_product_3 : decode cX1_product 3 = .ok (.istore 5, 2) := by decide +kernel
theorem dX1_product_5 : decode cX1_product 5 = .ok (.iload 5, 2) := by decide +kernel
theorem dX1_product_7 : decode cX1_product 7 = .ok (.bipush 6, 2) := by decide +kernel
theorem dX1_product_9 : decode cX1_product 9 = .ok (.if_icmp .ge 38, 3) := by decide +kernel
theorem dX1_product_12 : decode cX1_product 12 = .ok (.lload_n 3, 1) := by decide +kernel
theorem dX1_product_13 : decode cX1_product 13 = .ok (.aload_n 0, 1) := by decide +kernel
theorem dX1_product_14 : decode cX1_product 14 = .ok (.getfield 9, 3) := by decide +kernel
theorem dX1_product_17 : decode cX1_product 17 = .ok (.iload_n 1, 1) := by decide +kernel
theorem dX1_product_18 : decode cX1_product 18 = .ok (.bipush 6, 2) := by decide +kernel
theorem dX1_product_20 : decode cX1_product 20 = .ok (.imul, 1) := by decide +kernel
theorem dX1_product_21 : decode cX1_product 21 = .ok (.iload 5, 2) := by decide +kernel
theorem dX1_product_23 : decode cX1_product 23 = .ok (.iadd, 1) := by decide +kernel
theorem dX1_product_24 : decode cX1_product 24 = .ok (.iaload, 1) := by decide +kernel
theorem dX1_product_25 : decode cX1_product 25 = .ok (.aload_n 0, 1) := by decide +kernel
theorem dX1_product_26 : decode cX1_product 26 = .ok (.getfield 9, 3) := by decide +kernel
theorem dX1_product_29 : decode cX1_product 29 = .ok (.iload_n 2, 1) := by decide +kernel
theorem dX1_product_30 : decode cX1_product 30 = .ok (.bipush 6, 2) := by decide +kernel
theorem dX1_product_32 : decode cX1_product 32 = .ok (.imul, 1) := by decide +kernel
theorem dX1_product_33 : decode cX1_product 33 = .ok (.iload 5, 2) := by decide +kernel
theorem dX1_product_35 : decode cX1_product 35 = .ok (.iadd, 1) := by decide +kernel
theorem dX1_product_36 : decode cX1_product 36 = .ok (.iaload, 1) := by decide +kernel
theorem dX1_product_37 : decode cX1_product 37 = .ok (.imul, 1) := by decide +kernel
theorem dX1_product_38 : decode cX1_product 38 = .ok (.i2l, 1) := by decide +kernel
theorem dX1_product_39 : decode cX1_product 39 = .ok (.ladd, 1) := by decide +kernel
theorem dX1_product_40 : decode cX1_product 40 = .ok (.lstore_n 3, 1) := by decide +kernel
theorem dX1_product_41 : decode cX1_product 41 = .ok (.iinc 5 1, 3) := by decide +kernel
theorem dX1_product_44 : decode cX1_product 44 = .ok (.goto (-39), 3) := by decide +kernel
theorem dX1_product_47 : decode cX1_product 47 = .ok (.lload_n 3, 1) := by decide +kernel
theorem dX1_product_48 : decode cX1_product 48 = .ok (.lreturn, 1) := by decide +kernel
set_option maxRecDepth 100000 in
set_option maxHeartbeats 4000000 in
theorem wp_X1_product {n0 d : Nat} {K : z_K} {I : z_I} {L : z_L} {Q : z_q} {p0 : Int32} {p1 : Int32} (hL : CLay K) (h : Z n0 xX1_product d 0 0 5 [(0, .ref (n0 + 22)), (1, .int p0), (2, .int p1), (3, .long 0), (5, .int 0)] [] K I L (z_q0 K Q)) : RM0 n0 xX1_product d [.ref (n0 + 22), .int p0, .int p1] K I L Q := by
  refine z_entry0 (by decide) (Nat.le_of_ble_eq_true rfl) ?_
  change Z n0 xX1_product d 0 0 0 [(0, .ref (n0 + 22)), (1, .int p0), (2, .int p1)] [] K I L (z_q0 K Q)
  refine z_lconst 0 dX1_product_0 (by decide) ?_
  refine z_lstore_n [1, 2, 3, 0] [(0, .ref (n0 + 22)), (1, .int p0), (2, .int p1), (3, .long 0)] dX1_product_1 (by decide) rfl ?_
  refine z_iconst 0 dX1_product_2 (by decide) ?_
  refine z_istore [1, 2, 3, 4, 0] [(0, .ref (n0 + 22)), (1, .int p0), (2, .int p1), (3, .long 0), (5, .int 0)] dX1_product_3 (by decide) rfl ?_
  exact h
set_option maxRecDepth 100000 in
set_option maxHeartbeats 4000000 in
theorem wp_X1_product_5 {n0 d : Nat} {rc rs : Nat} {K : z_K} {I : z_I} {L : z_L} {Q : z_q} {a1 : Int32} {a2 : Int32} {a3 : Int64} {a5 : Int32} (hL : CLay K) (h : (if a5 < 6 then vp_in ((a1 * 6) + a5) 12 ∧ vp_in ((a2 * 6) + a5) 12 ∧ Z n0 xX1_product d rc rs 5 [(0, .ref (n0 + 22)), (1, .int a1), (2, .int a2), (3, .long (a3 + ((((I 23 (((a1 * 6) + a5).toNatClampNeg)) * (I 23 (((a2 * 6) + a5).toNatClampNeg))) : Int32).toInt64))), (5, .int (a5 + 1))] [] K I L (z_q0 K Q) else Q (some (.long a3)) I L)) : Z n0 xX1_product d rc rs 5 [(0, .ref (n0 + 22)), (1, .int a1), (2, .int a2), (3, .long a3), (5, .int a5)] [] K I L (z_q0 K Q) := by
  refine z_iload 4 dX1_product_5 rfl ?_
  refine z_bipush 6 dX1_product_7 (by decide) ?_
  refine z_icmp_ge 47 dX1_product_9 (by decide) (fun g1 => ?_) (fun g1 => ?_)
  · rw [if_neg g1] at h
    refine z_lload_n 3 dX1_product_47 rfl ?_
    exact z_lret dX1_product_48 rfl ⟨rfl, h⟩
  · rw [if_pos g1] at h
    refine z_lload_n 3 dX1_product_12 rfl ?_
    refine z_aload_n 0 dX1_product_13 rfl ?_
    refine fg_1_9 (some 23) rfl dX1_product_14 (co_22 hL).1 (co_22 hL).2 (ca_23 hL).1 ?_
    refine z_iload_n 1 dX1_product_17 rfl ?_
    refine z_bipush 6 dX1_product_18 (by decide) ?_
    refine z_imul dX1_product_20 ?_
    refine z_iload 4 dX1_product_21 rfl ?_
    refine z_iadd dX1_product_23 ?_
    obtain ⟨o2, h⟩ := h
    refine z_iald (I 23 (((a1 * 6) + a5).toNatClampNeg)) dX1_product_24 (ca_23 hL).2.1 (ca_23 hL).2.2 o2 rfl ?_
    refine z_aload_n 0 dX1_product_25 rfl ?_
    refine fg_1_9 (some 23) rfl dX1_product_26 (co_22 hL).1 (co_22 hL).2 (ca_23 hL).1 ?_
    refine z_iload_n 2 dX1_product_29 rfl ?_
    refine z_bipush 6 dX1_product_30 (by decide) ?_
    refine z_imul dX1_product_32 ?_
    refine z_iload 4 dX1_product_33 rfl ?_
    refine z_iadd dX1_product_35 ?_
    obtain ⟨o3, h⟩ := h
    refine z_iald (I 23 (((a2 * 6) + a5).toNatClampNeg)) dX1_product_36 (ca_23 hL).2.1 (ca_23 hL).2.2 o3 rfl ?_
    refine z_imul dX1_product_37 ?_
    refine z_i2l dX1_product_38 ?_
    refine z_ladd dX1_product_39 ?_
    refine z_lstore_n [1, 2, 3, 0, 4] [(0, .ref (n0 + 22)), (1, .int a1), (2, .int a2), (3, .long (a3 + ((((I 23 (((a1 * 6) + a5).toNatClampNeg)) * (I 23 (((a2 * 6) + a5).toNatClampNeg))) : Int32).toInt64))), (5, .int a5)] dX1_product_40 (by decide) rfl ?_
    refine z_iinc (j := 4) (a5 + 1) [1, 2, 3, 4, 0] [(0, .ref (n0 + 22)), (1, .int a1), (2, .int a2), (3, .long (a3 + ((((I 23 (((a1 * 6) + a5).toNatClampNeg)) * (I 23 (((a2 * 6) + a5).toNatClampNeg))) : Int32).toInt64))), (5, .int (a5 + 1))] dX1_product_41 rfl rfl (by decide) rfl ?_
    refine z_goto 5 dX1_product_44 (by decide) ?_
    exact h
theorem dX1_setFraction_0 : decode cX1_setFraction 0 = .ok (.lload_n 3, 1) := by decide +kernel
theorem dX1_setFraction_1 : decode cX1_setFraction 1 = .ok (.lstore 5, 2) := by decide +kernel
theorem dX1_setFraction_3 : decode cX1_setFraction 3 = .ok (.lload_n 1, 1) := by decide +kernel
theorem dX1_setFraction_4 : decode cX1_setFraction 4 = .ok (.invokestatic 45, 3) := by decide +kernel
theorem dX1_setFraction_7 : decode cX1_setFraction 7 = .ok (.lstore 7, 2) := by decide +kernel
theorem dX1_setFraction_9 : decode cX1_setFraction 9 = .ok (.iconst 0, 1) := by decide +kernel
theorem dX1_setFraction_10 : decode cX1_setFraction 10 = .ok (.istore 9, 2) := by decide +kernel
theorem dX1_setFraction_12 : decode cX1_setFraction 12 = .ok (.iload 9, 2) := by decide +kernel
theorem dX1_setFraction_14 : decode cX1_setFraction 14 = .ok (.sipush 128, 3) := by decide +kernel
theorem dX1_setFraction_17 : decode cX1_setFraction 17 = .ok (.if_icmp .ge 31, 3) := by decide +kernel
theorem dX1_setFraction_20 : decode cX1_setFraction 20 = .ok (.lload 7, 2) := by decide +kernel
theorem dX1_setFraction_22 : decode cX1_setFraction 22 = .ok (.lconst 0, 1) := by decide +kernel
theorem dX1_setFraction_23 : decode cX1_setFraction 23 = .ok (.lcmp, 1) := by decide +kernel
theorem dX1_setFraction_24 : decode cX1_setFraction 24 = .ok (.ifCond .eq 24, 3) := by decide +kernel
theorem dX1_setFraction_27 : decode cX1_setFraction 27 = .ok (.lload 5, 2) := by decide +kernel
theorem dX1_setFraction_29 : decode cX1_setFraction 29 = .ok (.lload 7, 2) := by decide +kernel
theorem dX1_setFraction_31 : decode cX1_setFraction 31 = .ok (.lrem, 1) := by decide +kernel
theorem dX1_setFraction_32 : decode cX1_setFraction 32 = .ok (.lstore 10, 2) := by decide +kernel
theorem dX1_setFraction_34 : decode cX1_setFraction 34 = .ok (.lload 7, 2) := by decide +kernel
theorem dX1_setFraction_36 : decode cX1_setFraction 36 = .ok (.lstore 5, 2) := by decide +kernel
theorem dX1_setFraction_38 : decode cX1_setFraction 38 = .ok (.lload 10, 2) := by decide +kernel
theorem dX1_setFraction_40 : decode cX1_setFraction 40 = .ok (.lstore 7, 2) := by decide +kernel
theorem dX1_setFraction_42 : decode cX1_setFraction 42 = .ok (.iinc 9 1, 3) := by decide +kernel
theorem dX1_setFraction_45 : decode cX1_setFraction 45 = .ok (.goto (-33), 3) := by decide +kernel
theorem dX1_setFraction_48 : decode cX1_setFraction 48 = .ok (.lload 5, 2) := by decide +kernel
theorem dX1_setFraction_50 : decode cX1_setFraction 50 = .ok (.lconst 0, 1) := by decide +kernel
theorem dX1_setFraction_51 : decode cX1_setFraction 51 = .ok (.lcmp, 1) := by decide +kernel
theorem dX1_setFraction_52 : decode cX1_setFraction 52 = .ok (.ifCond .ne 4, 3) := by decide +kernel
theorem dX1_setFraction_55 : decode cX1_setFraction 55 = .ok (.return_, 1) := by decide +kernel
theorem dX1_setFraction_56 : decode cX1_setFraction 56 = .ok (.aload_n 0, 1) := by decide +kernel
theorem dX1_setFraction_57 : decode cX1_setFraction 57 = .ok (.lload_n 1, 1) := by decide +kernel
theorem dX1_setFraction_58 : decode cX1_setFraction 58 = .ok (.lload 5, 2) := by decide +kernel
theorem dX1_setFraction_60 : decode cX1_setFraction 60 = .ok (.ldiv, 1) := by decide +kernel
theorem dX1_setFraction_61 : decode cX1_setFraction 61 = .ok (.putfield 22, 3) := by decide +kernel
theorem dX1_setFraction_64 : decode cX1_setFraction 64 = .ok (.aload_n 0, 1) := by decide +kernel
theorem dX1_setFraction_65 : decode cX1_setFraction 65 = .ok (.lload_n 3, 1) := by decide +kernel
theorem dX1_setFraction_66 : decode cX1_setFraction 66 = .ok (.lload 5, 2) := by decide +kernel
theorem dX1_setFraction_68 : decode cX1_setFraction 68 = .ok (.ldiv, 1) := by decide +kernel
theorem dX1_setFraction_69 : decode cX1_setFraction 69 = .ok (.putfield 26, 3) := by decide +kernel
theorem dX1_setFraction_72 : decode cX1_setFraction 72 = .ok (.return_, 1) := by decide +kernel
set_option maxRecDepth 100000 in
set_option maxHeartbeats 4000000 in
theorem wp_X1_setFraction {n0 d : Nat} {K : z_K} {I : z_I} {L : z_L} {Q : z_q} {p0 : Int64} {p1 : Int64} (hL : CLay K) (h : Z n0 xX1_setFraction (d + 1) 0 0 12 [(0, .ref (n0 + 22)), (1, .long p0), (3, .long p1), (5, .long p1), (7, .long (if 0 < p0 then p0 else -p0)), (9, .int 0)] [] K I L (z_q0 K Q)) : RM0 n0 xX1_setFraction (d + 1) [.ref (n0 + 22), .long p0, .long p1] K I L Q := by
  refine z_entry0 (by decide) (Nat.le_of_ble_eq_true rfl) ?_
  change Z n0 xX1_setFraction (d + 1) 0 0 0 [(0, .ref (n0 + 22)), (1, .long p0), (3, .long p1)] [] K I L (z_q0 K Q)
  refine z_lload_n 2 dX1_setFraction_0 rfl ?_
  refine z_lstore [1, 2, 3, 0] [(0, .ref (n0 + 22)), (1, .long p0), (3, .long p1), (5, .long p1)] dX1_setFraction_1 (by decide) rfl ?_
  refine z_lload_n 1 dX1_setFraction_3 rfl ?_
  refine z_mabsl dX1_setFraction_4 wg_1085 (by omega) (Nat.le_of_ble_eq_true rfl) ?_
  refine z_lstore [1, 2, 3, 4, 0] [(0, .ref (n0 + 22)), (1, .long p0), (3, .long p1), (5, .long p1), (7, .long (if 0 < p0 then p0 else -p0))] dX1_setFraction_7 (by decide) rfl ?_
  refine z_iconst 0 dX1_setFraction_9 (by decide) ?_
  refine z_istore [1, 2, 3, 4, 5, 0] [(0, .ref (n0 + 22)), (1, .long p0), (3, .long p1), (5, .long p1), (7, .long (if 0 < p0 then p0 else -p0)), (9, .int 0)] dX1_setFraction_10 (by decide) rfl ?_
  exact h
set_option maxRecDepth 100000 in
set_option maxHeartbeats 4000000 in
theorem wp_X1_setFraction_12 {n0 d : Nat} {rc rs : Nat} {K : z_K} {I : z_I} {L : z_L} {Q : z_q} {a1 : Int64} {a3 : Int64} {a5 : Int64} {a7 : Int64} {a9 : Int32} (hL : CLay K) (h : (if a9 < 128 then (if a7 = 0 then (if a5 = 0 then Q none I L else ¬ (a5 : Int64) = 0 ∧ Q none I (zL (zL L 22 3 (a1 / a5)) 22 4 (a3 / a5))) else ¬ (a7 : Int64) = 0 ∧ Z n0 xX1_setFraction (d + 1) rc rs 12 [(0, .ref (n0 + 22)), (1, .long a1), (3, .long a3), (5, .long a7), (7, .long (a5 - a5 / a7 * a7)), (9, .int (a9 + 1))] [] K I L (z_q0 K Q)) else (if a5 = 0 then Q none I L else ¬ (a5 : Int64) = 0 ∧ Q none I (zL (zL L 22 3 (a1 / a5)) 22 4 (a3 / a5))))) : Z n0 xX1_setFraction (d + 1) rc rs 12 [(0, .ref (n0 + 22)), (1, .long a1), (3, .long a3), (5, .long a5), (7, .long a7), (9, .int a9)] [] K I L (z_q0 K Q) := by
  refine z_iload 5 dX1_setFraction_12 rfl ?_
  refine z_sipush 128 dX1_setFraction_14 (by decide) ?_
  refine z_icmp_ge 48 dX1_setFraction_17 (by decide) (fun g1 => ?_) (fun g1 => ?_)
  · rw [if_neg g1] at h
    refine z_lload 3 dX1_setFraction_48 rfl ?_
    refine z_lconst 0 dX1_setFraction_50 (by decide) ?_
    refine z_lif_ne 56 dX1_setFraction_51 dX1_setFraction_52 (by decide) (fun g2 => ?_) (fun g2 => ?_)
    · rw [if_neg g2] at h
      refine z_aload_n 0 dX1_setFraction_56 rfl ?_
      refine z_lload_n 1 dX1_setFraction_57 rfl ?_
      refine z_lload 3 dX1_setFraction_58 rfl ?_
      obtain ⟨o3, h⟩ := h
      refine z_ldiv dX1_setFraction_60 o3 ?_
      refine fp_1_22 rfl dX1_setFraction_61 (co_22 hL).1 (co_22 hL).2 ?_
      refine z_aload_n 0 dX1_setFraction_64 rfl ?_
      refine z_lload_n 2 dX1_setFraction_65 rfl ?_
      refine z_lload 3 dX1_setFraction_66 rfl ?_
      refine z_ldiv dX1_setFraction_68 o3 ?_
      refine fp_1_26 rfl dX1_setFraction_69 (co_22 hL).1 (co_22 hL).2 ?_
      exact z_vret dX1_setFraction_72 rfl ⟨rfl, h⟩
    · rw [if_pos g2] at h
      exact z_vret dX1_setFraction_55 rfl ⟨rfl, h⟩
  · rw [if_pos g1] at h
    refine z_lload 4 dX1_setFraction_20 rfl ?_
    refine z_lconst 0 dX1_setFraction_22 (by decide) ?_
    refine z_lif_eq 48 dX1_setFraction_23 dX1_setFraction_24 (by decide) (fun g4 => ?_) (fun g4 => ?_)
    · rw [if_pos g4] at h
      refine z_lload 3 dX1_setFraction_48 rfl ?_
      refine z_lconst 0 dX1_setFraction_50 (by decide) ?_
      refine z_lif_ne 56 dX1_setFraction_51 dX1_setFraction_52 (by decide) (fun g5 => ?_) (fun g5 => ?_)
      · rw [if_neg g5] at h
        refine z_aload_n 0 dX1_setFraction_56 rfl ?_
        refine z_lload_n 1 dX1_setFraction_57 rfl ?_
        refine z_lload 3 dX1_setFraction_58 rfl ?_
        obtain ⟨o6, h⟩ := h
        refine z_ldiv dX1_setFraction_60 o6 ?_
        refine fp_1_22 rfl dX1_setFraction_61 (co_22 hL).1 (co_22 hL).2 ?_
        refine z_aload_n 0 dX1_setFraction_64 rfl ?_
        refine z_lload_n 2 dX1_setFraction_65 rfl ?_
        refine z_lload 3 dX1_setFraction_66 rfl ?_
        refine z_ldiv dX1_setFraction_68 o6 ?_
        refine fp_1_26 rfl dX1_setFraction_69 (co_22 hL).1 (co_22 hL).2 ?_
        exact z_vret dX1_setFraction_72 rfl ⟨rfl, h⟩
      · rw [if_pos g5] at h
        exact z_vret dX1_setFraction_55 rfl ⟨rfl, h⟩
    · rw [if_neg g4] at h
      refine z_lload 3 dX1_setFraction_27 rfl ?_
      refine z_lload 4 dX1_setFraction_29 rfl ?_
      obtain ⟨o7, h⟩ := h
      refine z_lrem dX1_setFraction_31 o7 ?_
      refine z_lstore [1, 2, 3, 4, 5, 6, 0] [(0, .ref (n0 + 22)), (1, .long a1), (3, .long a3), (5, .long a5), (7, .long a7), (9, .int a9), (10, .long (a5 - a5 / a7 * a7))] dX1_setFraction_32 (by decide) rfl ?_
      refine z_lload 4 dX1_setFraction_34 rfl ?_
      refine z_lstore [1, 2, 3, 0, 4, 5, 6] [(0, .ref (n0 + 22)), (1, .long a1), (3, .long a3), (5, .long a7), (7, .long a7), (9, .int a9), (10, .long (a5 - a5 / a7 * a7))] dX1_setFraction_36 (by decide) rfl ?_
      refine z_lload 6 dX1_setFraction_38 rfl ?_
      refine z_lstore [1, 2, 3, 4, 0, 5, 6] [(0, .ref (n0 + 22)), (1, .long a1), (3, .long a3), (5, .long a7), (7, .long (a5 - a5 / a7 * a7)), (9, .int a9), (10, .long (a5 - a5 / a7 * a7))] dX1_setFraction_40 (by decide) rfl ?_
      refine z_iinc (j := 5) (a9 + 1) [1, 2, 3, 4, 5, 0, 6] [(0, .ref (n0 + 22)), (1, .long a1), (3, .long a3), (5, .long a7), (7, .long (a5 - a5 / a7 * a7)), (9, .int (a9 + 1)), (10, .long (a5 - a5 / a7 * a7))] dX1_setFraction_42 rfl rfl (by decide) rfl ?_
      refine z_goto 12 dX1_setFraction_45 (by decide) ?_
      refine z_sub [0, 1, 2, 3, 4, 5] rfl ?_
      exact h
theorem dX2_begin_0 : decode cX2_begin 0 = .ok (.aload_n 0, 1) := by decide +kernel
theorem dX2_begin_1 : decode cX2_begin 1 = .ok (.iload_n 1, 1) := by decide +kernel
theorem dX2_begin_2 : decode cX2_begin 2 = .ok (.putfield 52, 3) := by decide +kernel
theorem dX2_begin_5 : decode cX2_begin 5 = .ok (.aload_n 0, 1) := by decide +kernel
theorem dX2_begin_6 : decode cX2_begin 6 = .ok (.iload_n 2, 1) := by decide +kernel
theorem dX2_begin_7 : decode cX2_begin 7 = .ok (.putfield 56, 3) := by decide +kernel
theorem dX2_begin_10 : decode cX2_begin 10 = .ok (.aload_n 0, 1) := by decide +kernel
theorem dX2_begin_11 : decode cX2_begin 11 = .ok (.aload_n 3, 1) := by decide +kernel
theorem dX2_begin_12 : decode cX2_begin 12 = .ok (.putfield 59, 3) := by decide +kernel
theorem dX2_begin_15 : decode cX2_begin 15 = .ok (.aload_n 0, 1) := by decide +kernel
theorem dX2_begin_16 : decode cX2_begin 16 = .ok (.getfield 15, 3) := by decide +kernel
theorem dX2_begin_19 : decode cX2_begin 19 = .ok (.iconst 0, 1) := by decide +kernel
theorem dX2_begin_20 : decode cX2_begin 20 = .ok (.invokestatic 63, 3) := by decide +kernel
theorem dX2_begin_23 : decode cX2_begin 23 = .ok (.return_, 1) := by decide +kernel
set_option maxRecDepth 100000 in
set_option maxHeartbeats 4000000 in
theorem wp_X2_begin {n0 d : Nat} {K : z_K} {I : z_I} {L : z_L} {Q : z_R} {p0 : Int32} {p1 : Int32} {p2 : Option Nat} (hL : CLay K) (h : RM0 n0 xJ7_fill_53178 d [.ref (n0 + 10), .int 0] (zR K 8 2 p2) (zI (zI I 8 0 p0) 8 1 p1) L (fun vv I1 L2 => vv = none ∧ Q none (zR K 8 2 p2) I1 L2)) : RM n0 xX2_begin (d + 1) 0 0 [.ref (n0 + 8), .int p0, .int p1, zr n0 p2] K I L Q := by
  refine z_entry (by decide) (by cases p2 <;> exact Nat.le_of_ble_eq_true rfl) ?_
  rw [show lv_args 0 [.ref (n0 + 8), .int p0, .int p1, zr n0 p2] = [(0, .ref (n0 + 8)), (1, .int p0), (2, .int p1), (3, zr n0 p2)] by (cases p2 <;> rfl)]
  change Z n0 xX2_begin (d + 1) 0 0 0 [(0, .ref (n0 + 8)), (1, .int p0), (2, .int p1), (3, zr n0 p2)] [] K I L Q
  refine z_aload_n 0 dX2_begin_0 rfl ?_
  refine z_iload_n 1 dX2_begin_1 rfl ?_
  refine fp_2_52 rfl dX2_begin_2 (co_8 hL).1 (co_8 hL).2 ?_
  refine z_aload_n 0 dX2_begin_5 rfl ?_
  refine z_iload_n 2 dX2_begin_6 rfl ?_
  refine fp_2_56 rfl dX2_begin_7 (co_8 hL).1 (co_8 hL).2 ?_
  refine z_aload_n 0 dX2_begin_10 rfl ?_
  refine z_aload_nO 3 dX2_begin_11 rfl ?_
  refine fp_2_59 p2 rfl dX2_begin_12 (co_8 hL).1 (co_8 hL).2 ?_
  refine z_aload_n 0 dX2_begin_15 rfl ?_
  refine fg_2_15 (some 10) rfl dX2_begin_16 (co_8 hL).1 (co_8 hL).2 (ca_10 hL).1 ?_
  refine z_iconst 0 dX2_begin_19 (by decide) ?_
  refine z_callS0 (As := [.ref (n0 + 10), .int 0]) (st := []) dX2_begin_20 hy_J7_fill_53178 wg_774 wg_775 (Nat.le_refl _) (Nat.le_of_ble_eq_true rfl) (RM0.mono h ?_)
  clear h
  intro vv I1 L2 h
  obtain ⟨rfl, h⟩ := h
  change Z n0 xX2_begin (d + 1) 0 0 23 [(0, .ref (n0 + 8)), (1, .int p0), (2, .int p1), (3, zr n0 p2)] [] (zR K 8 2 p2) I1 L2 Q
  exact z_vret dX2_begin_23 rfl h
theorem dX2_sound_0 : decode cX2_sound 0 = .ok (.iconst 0, 1) := by decide +kernel
theorem dX2_sound_1 : decode cX2_sound 1 = .ok (.istore_n 2, 1) := by decide +kernel
theorem dX2_sound_2 : decode cX2_sound 2 = .ok (.aload_n 1, 1) := by decide +kernel
theorem dX2_sound_3 : decode cX2_sound 3 = .ok (.astore_n 3, 1) := by decide +kernel
theorem dX2_sound_4 : decode cX2_sound 4 = .ok (.aload_n 3, 1) := by decide +kernel
theorem dX2_sound_5 : decode cX2_sound 5 = .ok (.ifnull 39, 3) := by decide +kernel
theorem dX2_sound_8 : decode cX2_sound 8 = .ok (.iload_n 2, 1) := by decide +kernel
theorem dX2_sound_9 : decode cX2_sound 9 = .ok (.bipush 16, 2) := by decide +kernel
theorem dX2_sound_11 : decode cX2_sound 11 = .ok (.if_icmp .ge 33, 3) := by decide +kernel
theorem dX2_sound_14 : decode cX2_sound 14 = .ok (.aload_n 0, 1) := by decide +kernel
theorem dX2_sound_15 : decode cX2_sound 15 = .ok (.getfield 15, 3) := by decide +kernel
theorem dX2_sound_18 : decode cX2_sound 18 = .ok (.aload_n 3, 1) := by decide +kernel
theorem dX2_sound_19 : decode cX2_sound 19 = .ok (.getfield 69, 3) := by decide +kernel
theorem dX2_sound_22 : decode cX2_sound 22 = .ok (.iaload, 1) := by decide +kernel
theorem dX2_sound_23 : decode cX2_sound 23 = .ok (.ifCond .ne 21, 3) := by decide +kernel
theorem dX2_sound_26 : decode cX2_sound 26 = .ok (.aload_n 0, 1) := by decide +kernel
theorem dX2_sound_27 : decode cX2_sound 27 = .ok (.getfield 32, 3) := by decide +kernel
theorem dX2_sound_30 : decode cX2_sound 30 = .ok (.iload_n 2, 1) := by decide +kernel
theorem dX2_sound_31 : decode cX2_sound 31 = .ok (.aload_n 3, 1) := by decide +kernel
theorem dX2_sound_32 : decode cX2_sound 32 = .ok (.aastore, 1) := by decide +kernel
theorem dX2_sound_33 : decode cX2_sound 33 = .ok (.iinc 2 1, 3) := by decide +kernel
theorem dX2_sound_36 : decode cX2_sound 36 = .ok (.aload_n 3, 1) := by decide +kernel
theorem dX2_sound_37 : decode cX2_sound 37 = .ok (.getfield 72, 3) := by decide +kernel
theorem dX2_sound_40 : decode cX2_sound 40 = .ok (.astore_n 3, 1) := by decide +kernel
theorem dX2_sound_41 : decode cX2_sound 41 = .ok (.goto (-37), 3) := by decide +kernel
theorem dX2_sound_44 : decode cX2_sound 44 = .ok (.iload_n 2, 1) := by decide +kernel
theorem dX2_sound_45 : decode cX2_sound 45 = .ok (.iconst 1, 1) := by decide +kernel
theorem dX2_sound_46 : decode cX2_sound 46 = .ok (.isub, 1) := by decide +kernel
theorem dX2_sound_47 : decode cX2_sound 47 = .ok (.istore 4, 2) := by decide +kernel
theorem dX2_sound_49 : decode cX2_sound 49 = .ok (.iload 4, 2) := by decide +kernel
theorem dX2_sound_51 : decode cX2_sound 51 = .ok (.ifCond .lt 20, 3) := by decide +kernel
theorem dX2_sound_54 : decode cX2_sound 54 = .ok (.aload_n 0, 1) := by decide +kernel
theorem dX2_sound_55 : decode cX2_sound 55 = .ok (.aload_n 0, 1) := by decide +kernel
theorem dX2_sound_56 : decode cX2_sound 56 = .ok (.getfield 32, 3) := by decide +kernel
theorem dX2_sound_59 : decode cX2_sound 59 = .ok (.iload 4, 2) := by decide +kernel
theorem dX2_sound_61 : decode cX2_sound 61 = .ok (.aaload, 1) := by decide +kernel
theorem dX2_sound_62 : decode cX2_sound 62 = .ok (.invokevirtual 76, 3) := by decide +kernel
theorem dX2_sound_65 : decode cX2_sound 65 = .ok (.iinc 4 (-1), 3) := by decide +kernel
theorem dX2_sound_68 : decode cX2_sound 68 = .ok (.goto (-19), 3) := by decide +kernel
theorem dX2_sound_71 : decode cX2_sound 71 = .ok (.aload_n 0, 1) := by decide +kernel
theorem dX2_sound_72 : decode cX2_sound 72 = .ok (.getfield 15, 3) := by decide +kernel
theorem dX2_sound_75 : decode cX2_sound 75 = .ok (.aload_n 1, 1) := by decide +kernel
theorem dX2_sound_76 : decode cX2_sound 76 = .ok (.getfield 69, 3) := by decide +kernel
theorem dX2_sound_79 : decode cX2_sound 79 = .ok (.iaload, 1) := by decide +kernel
theorem dX2_sound_80 : decode cX2_sound 80 = .ok (.iconst 1, 1) := by decide +kernel
theorem dX2_sound_81 : decode cX2_sound 81 = .ok (.if_icmp .ne 7, 3) := by decide +kernel
theorem dX2_sound_84 : decode cX2_sound 84 = .ok (.iconst 1, 1) := by decide +kernel
theorem dX2_sound_85 : decode cX2_sound 85 = .ok (.goto 4, 3) := by decide +kernel
theorem dX2_sound_88 : decode cX2_sound 88 = .ok (.iconst 0, 1) := by decide +kernel
theorem dX2_sound_89 : decode cX2_sound 89 = .ok (.ireturn, 1) := by decide +kernel
set_option maxRecDepth 100000 in
set_option maxHeartbeats 4000000 in
theorem wp_X2_sound {n0 d : Nat} {K : z_K} {I : z_I} {L : z_L} {Q : z_R} {p0 : Nat} (hL : CLay K) (h : Z n0 xX2_sound (d + 1) 0 0 4 [(0, .ref (n0 + 8)), (1, .ref (n0 + p0)), (2, .int 0), (3, .ref (n0 + p0))] [] K I L Q) : RM n0 xX2_sound (d + 1) 0 0 [.ref (n0 + 8), .ref (n0 + p0)] K I L Q := by
  refine z_entry (by decide) (Nat.le_of_ble_eq_true rfl) ?_
  change Z n0 xX2_sound (d + 1) 0 0 0 [(0, .ref (n0 + 8)), (1, .ref (n0 + p0))] [] K I L Q
  refine z_iconst 0 dX2_sound_0 (by decide) ?_
  refine z_istore_n [1, 2, 0] [(0, .ref (n0 + 8)), (1, .ref (n0 + p0)), (2, .int 0)] dX2_sound_1 (by decide) rfl ?_
  refine z_aload_n 1 dX2_sound_2 rfl ?_
  refine z_astore_n [1, 2, 3, 0] [(0, .ref (n0 + 8)), (1, .ref (n0 + p0)), (2, .int 0), (3, .ref (n0 + p0))] dX2_sound_3 (by decide) rfl ?_
  exact h
set_option maxRecDepth 100000 in
set_option maxHeartbeats 4000000 in
theorem wp_X2_sound_4 {n0 d : Nat} {rc rs : Nat} {K : z_K} {I : z_I} {L : z_L} {Q : z_R} {a1 : Nat} {a2 : Int32} {a3 : Option Nat} (hL : CLay K) (h : ((a3 = none → Z n0 xX2_sound (d + 1) rc rs 49 [(0, .ref (n0 + 8)), (1, .ref (n0 + a1)), (4, .int (a2 - 1))] [] K I L Q) ∧ (∀ q2, a3 = some q2 → (if a2 < 16 then q2 < K.1 ∧ (K.2.1 q2).1 = 5 ∧ vp_in (I q2 0) 16 ∧ (if ((I 10 ((I q2 0).toNatClampNeg)) : Int32) = 0 then vp_in a2 16 ∧ q2 < (zR K 15 a2.toNatClampNeg (some q2)).1 ∧ ((zR K 15 a2.toNatClampNeg (some q2)).2.1 q2).1 = 5 ∧ (∀ o11, ((zR K 15 a2.toNatClampNeg (some q2))).2.2 q2 3 = o11 → Z n0 xX2_sound (d + 1) rc rs 4 [(0, .ref (n0 + 8)), (1, .ref (n0 + a1)), (2, .int (a2 + 1)), (3, zr n0 o11)] [] (zR K 15 a2.toNatClampNeg (some q2)) I L Q) else Z n0 xX2_sound (d + 1) rc rs 49 [(0, .ref (n0 + 8)), (1, .ref (n0 + a1)), (4, .int (a2 - 1))] [] K I L Q) else Z n0 xX2_sound (d + 1) rc rs 49 [(0, .ref (n0 + 8)), (1, .ref (n0 + a1)), (4, .int (a2 - 1))] [] K I L Q)))) : Z n0 xX2_sound (d + 1) rc rs 4 [(0, .ref (n0 + 8)), (1, .ref (n0 + a1)), (2, .int a2), (3, zr n0 a3)] [] K I L Q := by
  refine z_aload_nO 3 dX2_sound_4 rfl ?_
  refine z_ifnull 44 dX2_sound_5 (by decide) (fun g1 => ?_) (fun q2 g1 => ?_)
  · replace h := h.1 g1
    subst g1
    change Z n0 xX2_sound (d + 1) rc rs 44 [(0, .ref (n0 + 8)), (1, .ref (n0 + a1)), (2, .int a2), (3, .null)] [] K I L Q
    refine z_iload_n 2 dX2_sound_44 rfl ?_
    refine z_iconst 1 dX2_sound_45 (by decide) ?_
    refine z_isub dX2_sound_46 ?_
    refine z_istore [1, 2, 3, 4, 0] [(0, .ref (n0 + 8)), (1, .ref (n0 + a1)), (2, .int a2), (3, .null), (4, .int (a2 - 1))] dX2_sound_47 (by decide) rfl ?_
    refine z_sub [0, 1, 4] rfl ?_
    exact h
  · replace h := h.2 q2 g1
    subst g1
    change Z n0 xX2_sound (d + 1) rc rs 8 [(0, .ref (n0 + 8)), (1, .ref (n0 + a1)), (2, .int a2), (3, .ref (n0 + q2))] [] K I L Q
    refine z_iload_n 2 dX2_sound_8 rfl ?_
    refine z_bipush 16 dX2_sound_9 (by decide) ?_
    refine z_icmp_ge 44 dX2_sound_11 (by decide) (fun g3 => ?_) (fun g3 => ?_)
    · rw [if_neg g3] at h
      refine z_iload_n 2 dX2_sound_44 rfl ?_
      refine z_iconst 1 dX2_sound_45 (by decide) ?_
      refine z_isub dX2_sound_46 ?_
      refine z_istore [1, 2, 3, 4, 0] [(0, .ref (n0 + 8)), (1, .ref (n0 + a1)), (2, .int a2), (3, .ref (n0 + q2)), (4, .int (a2 - 1))] dX2_sound_47 (by decide) rfl ?_
      refine z_sub [0, 1, 4] rfl ?_
      exact h
    · rw [if_pos g3] at h
      refine z_aload_n 0 dX2_sound_14 rfl ?_
      refine fg_2_15 (some 10) rfl dX2_sound_15 (co_8 hL).1 (co_8 hL).2 (ca_10 hL).1 ?_
      refine z_aload_n 3 dX2_sound_18 rfl ?_
      obtain ⟨o4, o5, h⟩ := h
      refine fg_2_69 (I q2 0) rfl dX2_sound_19 o4 o5 rfl ?_
      obtain ⟨o6, h⟩ := h
      refine z_iald (I 10 ((I q2 0).toNatClampNeg)) dX2_sound_22 (ca_10 hL).2.1 (ca_10 hL).2.2 o6 rfl ?_
      refine z_if_ne 44 dX2_sound_23 (by decide) (fun g7 => ?_) (fun g7 => ?_)
      · rw [if_neg g7] at h
        refine z_iload_n 2 dX2_sound_44 rfl ?_
        refine z_iconst 1 dX2_sound_45 (by decide) ?_
        refine z_isub dX2_sound_46 ?_
        refine z_istore [1, 2, 3, 4, 0] [(0, .ref (n0 + 8)), (1, .ref (n0 + a1)), (2, .int a2), (3, .ref (n0 + q2)), (4, .int (a2 - 1))] dX2_sound_47 (by decide) rfl ?_
        refine z_sub [0, 1, 4] rfl ?_
        exact h
      · rw [if_pos g7] at h
        refine z_aload_n 0 dX2_sound_26 rfl ?_
        refine fg_2_32 (some 15) rfl dX2_sound_27 (co_8 hL).1 (co_8 hL).2 (ca_15 hL).1 ?_
        refine z_iload_n 2 dX2_sound_30 rfl ?_
        refine z_aload_n 3 dX2_sound_31 rfl ?_
        obtain ⟨o8, h⟩ := h
        refine z_aast (t := 35) dX2_sound_32 (ca_15 hL).2.1 (ca_15 hL).2.2 (by unfold z_rt; decide) o8 o4 o5 ?_
        refine z_iinc (j := 2) (a2 + 1) [1, 2, 0, 3] [(0, .ref (n0 + 8)), (1, .ref (n0 + a1)), (2, .int (a2 + 1)), (3, .ref (n0 + q2))] dX2_sound_33 rfl rfl (by decide) rfl ?_
        refine z_aload_n 3 dX2_sound_36 rfl ?_
        obtain ⟨o9, o10, h⟩ := h
        obtain ⟨o11, o11e⟩ : ∃ o, ((zR K 15 a2.toNatClampNeg (some q2))).2.2 q2 3 = o := ⟨_, rfl⟩
        replace h := h o11 o11e
        refine fg_2_72 o11 rfl dX2_sound_37 o9 o10 o11e ?_
        refine z_astore_nO [1, 2, 3, 0] [(0, .ref (n0 + 8)), (1, .ref (n0 + a1)), (2, .int (a2 + 1)), (3, zr n0 o11)] dX2_sound_40 (by decide) (fun v hv => by subst hv; rfl) ?_
        refine z_goto 4 dX2_sound_41 (by decide) ?_
        exact h
set_option maxRecDepth 100000 in
set_option maxHeartbeats 4000000 in
theorem wp_X2_sound_49 {n0 d : Nat} {rc rs : Nat} {K : z_K} {I : z_I} {L : z_L} {Q : z_R} {a1 : Nat} {a4 : Int32} (hL : CLay K) (h : (if a4 < 0 then a1 < K.1 ∧ (K.2.1 a1).1 = 5 ∧ vp_in (I a1 0) 16 ∧ Q (some (.int (if ((I 10 ((I a1 0).toNatClampNeg)) : Int32) = 1 then 1 else 0))) K I L else vp_in a4 16 ∧ (∃ q8, K.2.2 15 a4.toNatClampNeg = some q8 ∧ RM0 n0 xX2_drawOne d [.ref (n0 + 8), .ref (n0 + q8)] K I L (fun vv I9 L10 => vv = none ∧ Z n0 xX2_sound (d + 1) rc rs 49 [(0, .ref (n0 + 8)), (1, .ref (n0 + a1)), (4, .int (a4 + (-1)))] [] K I9 L10 Q)))) : Z n0 xX2_sound (d + 1) rc rs 49 [(0, .ref (n0 + 8)), (1, .ref (n0 + a1)), (4, .int a4)] [] K I L Q := by
  refine z_iload 2 dX2_sound_49 rfl ?_
  refine z_if_lt 71 dX2_sound_51 (by decide) (fun g1 => ?_) (fun g1 => ?_)
  · rw [if_pos g1] at h
    refine z_aload_n 0 dX2_sound_71 rfl ?_
    refine fg_2_15 (some 10) rfl dX2_sound_72 (co_8 hL).1 (co_8 hL).2 (ca_10 hL).1 ?_
    refine z_aload_n 1 dX2_sound_75 rfl ?_
    obtain ⟨o2, o3, h⟩ := h
    refine fg_2_69 (I a1 0) rfl dX2_sound_76 o2 o3 rfl ?_
    obtain ⟨o4, h⟩ := h
    refine z_iald (I 10 ((I a1 0).toNatClampNeg)) dX2_sound_79 (ca_10 hL).2.1 (ca_10 hL).2.2 o4 rfl ?_
    refine z_iconst 1 dX2_sound_80 (by decide) ?_
    have key6 : Z n0 xX2_sound (d + 1) rc rs 89 [] [.int (if ((I 10 ((I a1 0).toNatClampNeg)) : Int32) = 1 then 1 else 0)] K I L Q := by
      exact z_zretb dX2_sound_89 rfl (z_bite (by repeat' (first | exact Or.inl rfl | exact Or.inr rfl | split))) h
    refine z_icmp_ne 88 dX2_sound_81 (by decide) (fun g5 => ?_) (fun g5 => ?_)
    · refine z_iconst 0 dX2_sound_88 (by decide) ?_
      have ee : ((if ((I 10 ((I a1 0).toNatClampNeg)) : Int32) = 1 then 1 else 0) : Int32) = 0 := by rw [if_neg g5]
      rw [ee] at key6
      clear ee
      refine z_sub [] rfl ?_
      exact key6
    · refine z_iconst 1 dX2_sound_84 (by decide) ?_
      refine z_goto 89 dX2_sound_85 (by decide) ?_
      have ee : ((if ((I 10 ((I a1 0).toNatClampNeg)) : Int32) = 1 then 1 else 0) : Int32) = 1 := by rw [if_pos g5]
      rw [ee] at key6
      clear ee
      refine z_sub [] rfl ?_
      exact key6
  · rw [if_neg g1] at h
    refine z_aload_n 0 dX2_sound_54 rfl ?_
    refine z_aload_n 0 dX2_sound_55 rfl ?_
    refine fg_2_32 (some 15) rfl dX2_sound_56 (co_8 hL).1 (co_8 hL).2 (ca_15 hL).1 ?_
    refine z_iload 2 dX2_sound_59 rfl ?_
    obtain ⟨o7, h⟩ := h
    obtain ⟨q8, q8e, h⟩ := h
    refine z_aald (some q8) dX2_sound_61 (ca_15 hL).2.1 (ca_15 hL).2.2 (by unfold z_rt; decide) o7 q8e ?_
    refine z_callV0 (As := [.ref (n0 + q8)]) (st := []) dX2_sound_62 hy_X2_drawOne (co_8 hL).1 (co_8 hL).2 (by decide) wg_843 wg_845 wg_20 (Nat.le_refl _) (Nat.le_of_ble_eq_true rfl) (RM0.mono h ?_)
    clear h
    intro vv I9 L10 h
    obtain ⟨rfl, h⟩ := h
    change Z n0 xX2_sound (d + 1) rc rs 65 [(0, .ref (n0 + 8)), (1, .ref (n0 + a1)), (4, .int a4)] [] K I9 L10 Q
    refine z_iinc (j := 2) (a4 + (-1)) [1, 2, 0] [(0, .ref (n0 + 8)), (1, .ref (n0 + a1)), (4, .int (a4 + (-1)))] dX2_sound_65 rfl rfl (by decide) rfl ?_
    refine z_goto 49 dX2_sound_68 (by decide) ?_
    exact h
theorem dX2_placeOf_0 : decode cX2_placeOf 0 = .ok (.aload_n 1, 1) := by decide +kernel
theorem dX2_placeOf_1 : decode cX2_placeOf 1 = .ok (.getfield 69, 3) := by decide +kernel
theorem dX2_placeOf_4 : decode cX2_placeOf 4 = .ok (.bipush 10, 2) := by decide +kernel
theorem dX2_placeOf_6 : decode cX2_placeOf 6 = .ok (.imul, 1) := by decide +kernel
theorem dX2_placeOf_7 : decode cX2_placeOf 7 = .ok (.iload_n 2, 1) := by decide +kernel
theorem dX2_placeOf_8 : decode cX2_placeOf 8 = .ok (.iadd, 1) := by decide +kernel
theorem dX2_placeOf_9 : decode cX2_placeOf 9 = .ok (.istore 4, 2) := by decide +kernel
theorem dX2_placeOf_11 : decode cX2_placeOf 11 = .ok (.iload_n 3, 1) := by decide +kernel
theorem dX2_placeOf_12 : decode cX2_placeOf 12 = .ok (.ifCond .ne 13, 3) := by decide +kernel
theorem dX2_placeOf_15 : decode cX2_placeOf 15 = .ok (.aload_n 0, 1) := by decide +kernel
theorem dX2_placeOf_16 : decode cX2_placeOf 16 = .ok (.getfield 18, 3) := by decide +kernel
theorem dX2_placeOf_19 : decode cX2_placeOf 19 = .ok (.iload 4, 2) := by decide +kernel
theorem dX2_placeOf_21 : decode cX2_placeOf 21 = .ok (.iaload, 1) := by decide +kernel
theorem dX2_placeOf_22 : decode cX2_placeOf 22 = .ok (.goto 10, 3) := by decide +kernel
theorem dX2_placeOf_25 : decode cX2_placeOf 25 = .ok (.aload_n 0, 1) := by decide +kernel
theorem dX2_placeOf_26 : decode cX2_placeOf 26 = .ok (.getfield 21, 3) := by decide +kernel
theorem dX2_placeOf_29 : decode cX2_placeOf 29 = .ok (.iload 4, 2) := by decide +kernel
theorem dX2_placeOf_31 : decode cX2_placeOf 31 = .ok (.iaload, 1) := by decide +kernel
theorem dX2_placeOf_32 : decode cX2_placeOf 32 = .ok (.ireturn, 1) := by decide +kernel
set_option maxRecDepth 100000 in
set_option maxHeartbeats 4000000 in
theorem wp_X2_placeOf {n0 d : Nat} {K : z_K} {I : z_I} {L : z_L} {Q : z_q} {p0 : Nat} {p1 : Int32} {p2 : Int32} (hL : CLay K) (h : p0 < K.1 ∧ (K.2.1 p0).1 = 5 ∧ (¬ (p2 = 0) → vp_in (((I p0 0) * 10) + p1) 160) ∧ (p2 = 0 → vp_in (((I p0 0) * 10) + p1) 160) ∧ Q (some (.int (if p2 = 0 then (I 11 ((((I p0 0) * 10) + p1).toNatClampNeg)) else (I 12 ((((I p0 0) * 10) + p1).toNatClampNeg))))) I L) : RM0 n0 xX2_placeOf d [.ref (n0 + 8), .ref (n0 + p0), .int p1, .int p2] K I L Q := by
  refine z_entry0 (by decide) (Nat.le_of_ble_eq_true rfl) ?_
  change Z n0 xX2_placeOf d 0 0 0 [(0, .ref (n0 + 8)), (1, .ref (n0 + p0)), (2, .int p1), (3, .int p2)] [] K I L (z_q0 K Q)
  refine z_aload_n 1 dX2_placeOf_0 rfl ?_
  obtain ⟨o1, o2, h⟩ := h
  refine fg_2_69 (I p0 0) rfl dX2_placeOf_1 o1 o2 rfl ?_
  refine z_bipush 10 dX2_placeOf_4 (by decide) ?_
  refine z_imul dX2_placeOf_6 ?_
  refine z_iload_n 2 dX2_placeOf_7 rfl ?_
  refine z_iadd dX2_placeOf_8 ?_
  refine z_istore [1, 2, 3, 4, 0] [(0, .ref (n0 + 8)), (1, .ref (n0 + p0)), (2, .int p1), (3, .int p2), (4, .int (((I p0 0) * 10) + p1))] dX2_placeOf_9 (by decide) rfl ?_
  refine z_iload_n 3 dX2_placeOf_11 rfl ?_
  obtain ⟨o4, o5, h⟩ := h
  have key6 : Z n0 xX2_placeOf d 0 0 32 [] [.int (if p2 = 0 then (I 11 ((((I p0 0) * 10) + p1).toNatClampNeg)) else (I 12 ((((I p0 0) * 10) + p1).toNatClampNeg)))] K I L (z_q0 K Q) := by
    exact z_iret dX2_placeOf_32 rfl ⟨rfl, h⟩
  refine z_if_ne 25 dX2_placeOf_12 (by decide) (fun g3 => ?_) (fun g3 => ?_)
  · refine z_aload_n 0 dX2_placeOf_25 rfl ?_
    refine fg_2_21 (some 12) rfl dX2_placeOf_26 (co_8 hL).1 (co_8 hL).2 (ca_12 hL).1 ?_
    refine z_iload 4 dX2_placeOf_29 rfl ?_
    refine z_iald (I 12 ((((I p0 0) * 10) + p1).toNatClampNeg)) dX2_placeOf_31 (ca_12 hL).2.1 (ca_12 hL).2.2 (o4 g3) rfl ?_
    have ee : ((if p2 = 0 then (I 11 ((((I p0 0) * 10) + p1).toNatClampNeg)) else (I 12 ((((I p0 0) * 10) + p1).toNatClampNeg))) : Int32) = (I 12 ((((I p0 0) * 10) + p1).toNatClampNeg)) := by rw [if_neg g3]
    rw [ee] at key6
    clear ee
    refine z_sub [] rfl ?_
    exact key6
  · refine z_aload_n 0 dX2_placeOf_15 rfl ?_
    refine fg_2_18 (some 11) rfl dX2_placeOf_16 (co_8 hL).1 (co_8 hL).2 (ca_11 hL).1 ?_
    refine z_iload 4 dX2_placeOf_19 rfl ?_
    refine z_iald (I 11 ((((I p0 0) * 10) + p1).toNatClampNeg)) dX2_placeOf_21 (ca_11 hL).2.1 (ca_11 hL).2.2 (o5 g3) rfl ?_
    refine z_goto 32 dX2_placeOf_22 (by decide) ?_
    have ee : ((if p2 = 0 then (I 11 ((((I p0 0) * 10) + p1).toNatClampNeg)) else (I 12 ((((I p0 0) * 10) + p1).toNatClampNeg))) : Int32) = (I 11 ((((I p0 0) * 10) + p1).toNatClampNeg)) := by rw [if_pos g3]
    rw [ee] at key6
    clear ee
    refine z_sub [] rfl ?_
    exact key6
theorem dX2_drawOne_0 : decode cX2_drawOne 0 = .ok (.iconst 1, 1) := by decide +kernel
theorem dX2_drawOne_1 : decode cX2_drawOne 1 = .ok (.istore_n 2, 1) := by decide +kernel
theorem dX2_drawOne_2 : decode cX2_drawOne 2 = .ok (.iconst 0, 1) := by decide +kernel
theorem dX2_drawOne_3 : decode cX2_drawOne 3 = .ok (.istore_n 3, 1) := by decide +kernel
theorem dX2_drawOne_4 : decode cX2_drawOne 4 = .ok (.iload_n 2, 1) := by decide +kernel
theorem dX2_drawOne_5 : decode cX2_drawOne 5 = .ok (.ifCond .eq 53, 3) := by decide +kernel
theorem dX2_drawOne_8 : decode cX2_drawOne 8 = .ok (.iload_n 3, 1) := by decide +kernel
theorem dX2_drawOne_9 : decode cX2_drawOne 9 = .ok (.aload_n 1, 1) := by decide +kernel
theorem dX2_drawOne_10 : decode cX2_drawOne 10 = .ok (.getfield 80, 3) := by decide +kernel
theorem dX2_drawOne_13 : decode cX2_drawOne 13 = .ok (.if_icmp .ge 45, 3) := by decide +kernel
theorem dX2_drawOne_16 : decode cX2_drawOne 16 = .ok (.aload_n 1, 1) := by decide +kernel
theorem dX2_drawOne_17 : decode cX2_drawOne 17 = .ok (.iload_n 3, 1) := by decide +kernel
theorem dX2_drawOne_18 : decode cX2_drawOne 18 = .ok (.aload_n 0, 1) := by decide +kernel
theorem dX2_drawOne_19 : decode cX2_drawOne 19 = .ok (.getfield 56, 3) := by decide +kernel
theorem dX2_drawOne_22 : decode cX2_drawOne 22 = .ok (.invokevirtual 83, 3) := by decide +kernel
theorem dX2_drawOne_25 : decode cX2_drawOne 25 = .ok (.astore 4, 2) := by decide +kernel
theorem dX2_drawOne_27 : decode cX2_drawOne 27 = .ok (.aload 4, 2) := by decide +kernel
theorem dX2_drawOne_29 : decode cX2_drawOne 29 = .ok (.ifnull 13, 3) := by decide +kernel
theorem dX2_drawOne_32 : decode cX2_drawOne 32 = .ok (.aload_n 0, 1) := by decide +kernel
theorem dX2_drawOne_33 : decode cX2_drawOne 33 = .ok (.aload 4, 2) := by decide +kernel
theorem dX2_drawOne_35 : decode cX2_drawOne 35 = .ok (.iload_n 3, 1) := by decide +kernel
theorem dX2_drawOne_36 : decode cX2_drawOne 36 = .ok (.invokevirtual 87, 3) := by decide +kernel
theorem dX2_drawOne_39 : decode cX2_drawOne 39 = .ok (.goto 12, 3) := by decide +kernel
theorem dX2_drawOne_42 : decode cX2_drawOne 42 = .ok (.aload_n 0, 1) := by decide +kernel
theorem dX2_drawOne_43 : decode cX2_drawOne 43 = .ok (.aload_n 1, 1) := by decide +kernel
theorem dX2_drawOne_44 : decode cX2_drawOne 44 = .ok (.getfield 72, 3) := by decide +kernel
theorem dX2_drawOne_47 : decode cX2_drawOne 47 = .ok (.iload_n 3, 1) := by decide +kernel
theorem dX2_drawOne_48 : decode cX2_drawOne 48 = .ok (.invokevirtual 91, 3) := by decide +kernel
theorem dX2_drawOne_51 : decode cX2_drawOne 51 = .ok (.istore_n 2, 1) := by decide +kernel
theorem dX2_drawOne_52 : decode cX2_drawOne 52 = .ok (.iinc 3 1, 3) := by decide +kernel
theorem dX2_drawOne_55 : decode cX2_drawOne 55 = .ok (.goto (-51), 3) := by decide +kernel
theorem dX2_drawOne_58 : decode cX2_drawOne 58 = .ok (.aload_n 0, 1) := by decide +kernel
theorem dX2_drawOne_59 : decode cX2_drawOne 59 = .ok (.getfield 15, 3) := by decide +kernel
theorem dX2_drawOne_62 : decode cX2_drawOne 62 = .ok (.aload_n 1, 1) := by decide +kernel
theorem dX2_drawOne_63 : decode cX2_drawOne 63 = .ok (.getfield 69, 3) := by decide +kernel
theorem dX2_drawOne_66 : decode cX2_drawOne 66 = .ok (.iload_n 2, 1) := by decide +kernel
theorem dX2_drawOne_67 : decode cX2_drawOne 67 = .ok (.ifCond .eq 7, 3) := by decide +kernel
theorem dX2_drawOne_70 : decode cX2_drawOne 70 = .ok (.iconst 1, 1) := by decide +kernel
theorem dX2_drawOne_71 : decode cX2_drawOne 71 = .ok (.goto 4, 3) := by decide +kernel
theorem dX2_drawOne_74 : decode cX2_drawOne 74 = .ok (.iconst 2, 1) := by decide +kernel
theorem dX2_drawOne_75 : decode cX2_drawOne 75 = .ok (.iastore, 1) := by decide +kernel
theorem dX2_drawOne_76 : decode cX2_drawOne 76 = .ok (.iconst 0, 1) := by decide +kernel
theorem dX2_drawOne_77 : decode cX2_drawOne 77 = .ok (.istore_n 3, 1) := by decide +kernel
theorem dX2_drawOne_78 : decode cX2_drawOne 78 = .ok (.iload_n 2, 1) := by decide +kernel
theorem dX2_drawOne_79 : decode cX2_drawOne 79 = .ok (.ifCond .eq 135, 3) := by decide +kernel
theorem dX2_drawOne_82 : decode cX2_drawOne 82 = .ok (.iload_n 3, 1) := by decide +kernel
theorem dX2_drawOne_83 : decode cX2_drawOne 83 = .ok (.aload_n 1, 1) := by decide +kernel
theorem dX2_drawOne_84 : decode cX2_drawOne 84 = .ok (.getfield 80, 3) := by decide +kernel
theorem dX2_drawOne_87 : decode cX2_drawOne 87 = .ok (.if_icmp .ge 127, 3) := by decide +kernel
theorem dX2_drawOne_90 : decode cX2_drawOne 90 = .ok (.aload_n 1, 1) := by decide +kernel
theorem dX2_drawOne_91 : decode cX2_drawOne 91 = .ok (.getfield 69, 3) := by decide +kernel
theorem dX2_drawOne_94 : decode cX2_drawOne 94 = .ok (.bipush 10, 2) := by decide +kernel
theorem dX2_drawOne_96 : decode cX2_drawOne 96 = .ok (.imul, 1) := by decide +kernel
theorem dX2_drawOne_97 : decode cX2_drawOne 97 = .ok (.iload_n 3, 1) := by decide +kernel
theorem dX2_drawOne_98 : decode cX2_drawOne 98 = .ok (.iadd, 1) := by decide +kernel
theorem dX2_drawOne_99 : decode cX2_drawOne 99 = .ok (.istore 4, 2) := by decide +kernel
theorem dX2_drawOne_101 : decode cX2_drawOne 101 = .ok (.aload_n 0, 1) := by decide +kernel
theorem dX2_drawOne_102 : decode cX2_drawOne 102 = .ok (.getfield 52, 3) := by decide +kernel
theorem dX2_drawOne_105 : decode cX2_drawOne 105 = .ok (.iconst 5, 1) := by decide +kernel
theorem dX2_drawOne_106 : decode cX2_drawOne 106 = .ok (.isub, 1) := by decide +kernel
theorem dX2_drawOne_107 : decode cX2_drawOne 107 = .ok (.istore 5, 2) := by decide +kernel
theorem dX2_drawOne_109 : decode cX2_drawOne 109 = .ok (.aload_n 0, 1) := by decide +kernel
theorem dX2_drawOne_110 : decode cX2_drawOne 110 = .ok (.getfield 18, 3) := by decide +kernel
theorem dX2_drawOne_113 : decode cX2_drawOne 113 = .ok (.iload 4, 2) := by decide +kernel
theorem dX2_drawOne_115 : decode cX2_drawOne 115 = .ok (.aload_n 0, 1) := by decide +kernel
theorem dX2_drawOne_116 : decode cX2_drawOne 116 = .ok (.getfield 24, 3) := by decide +kernel
theorem dX2_drawOne_119 : decode cX2_drawOne 119 = .ok (.iload_n 3, 1) := by decide +kernel
theorem dX2_drawOne_120 : decode cX2_drawOne 120 = .ok (.iaload, 1) := by decide +kernel
theorem dX2_drawOne_121 : decode cX2_drawOne 121 = .ok (.aload_n 1, 1) := by decide +kernel
theorem dX2_drawOne_122 : decode cX2_drawOne 122 = .ok (.getfield 95, 3) := by decide +kernel
theorem dX2_drawOne_125 : decode cX2_drawOne 125 = .ok (.iload_n 3, 1) := by decide +kernel
theorem dX2_drawOne_126 : decode cX2_drawOne 126 = .ok (.iaload, 1) := by decide +kernel
theorem dX2_drawOne_127 : decode cX2_drawOne 127 = .ok (.iload 5, 2) := by decide +kernel
theorem dX2_drawOne_129 : decode cX2_drawOne 129 = .ok (.imul, 1) := by decide +kernel
theorem dX2_drawOne_130 : decode cX2_drawOne 130 = .ok (.iadd, 1) := by decide +kernel
theorem dX2_drawOne_131 : decode cX2_drawOne 131 = .ok (.iastore, 1) := by decide +kernel
theorem dX2_drawOne_132 : decode cX2_drawOne 132 = .ok (.aload_n 0, 1) := by decide +kernel
theorem dX2_drawOne_133 : decode cX2_drawOne 133 = .ok (.getfield 21, 3) := by decide +kernel
theorem dX2_drawOne_136 : decode cX2_drawOne 136 = .ok (.iload 4, 2) := by decide +kernel
theorem dX2_drawOne_138 : decode cX2_drawOne 138 = .ok (.aload_n 0, 1) := by decide +kernel
theorem dX2_drawOne_139 : decode cX2_drawOne 139 = .ok (.getfield 27, 3) := by decide +kernel
theorem dX2_drawOne_142 : decode cX2_drawOne 142 = .ok (.iload_n 3, 1) := by decide +kernel
theorem dX2_drawOne_143 : decode cX2_drawOne 143 = .ok (.iaload, 1) := by decide +kernel
theorem dX2_drawOne_144 : decode cX2_drawOne 144 = .ok (.aload_n 1, 1) := by decide +kernel
theorem dX2_drawOne_145 : decode cX2_drawOne 145 = .ok (.getfield 98, 3) := by decide +kernel
theorem dX2_drawOne_148 : decode cX2_drawOne 148 = .ok (.iload_n 3, 1) := by decide +kernel
theorem dX2_drawOne_149 : decode cX2_drawOne 149 = .ok (.iaload, 1) := by decide +kernel
theorem dX2_drawOne_150 : decode cX2_drawOne 150 = .ok (.iload 5, 2) := by decide +kernel
theorem dX2_drawOne_152 : decode cX2_drawOne 152 = .ok (.imul, 1) := by decide +kernel
theorem dX2_drawOne_153 : decode cX2_drawOne 153 = .ok (.iadd, 1) := by decide +kernel
theorem dX2_drawOne_154 : decode cX2_drawOne 154 = .ok (.iastore, 1) := by decide +kernel
theorem dX2_drawOne_155 : decode cX2_drawOne 155 = .ok (.aload_n 0, 1) := by decide +kernel
theorem dX2_drawOne_156 : decode cX2_drawOne 156 = .ok (.getfield 59, 3) := by decide +kernel
theorem dX2_drawOne_159 : decode cX2_drawOne 159 = .ok (.ifnull 49, 3) := by decide +kernel
theorem dX2_drawOne_162 : decode cX2_drawOne 162 = .ok (.aload_n 0, 1) := by decide +kernel
theorem dX2_drawOne_163 : decode cX2_drawOne 163 = .ok (.getfield 18, 3) := by decide +kernel
theorem dX2_drawOne_166 : decode cX2_drawOne 166 = .ok (.iload 4, 2) := by decide +kernel
theorem dX2_drawOne_168 : decode cX2_drawOne 168 = .ok (.dup2, 1) := by decide +kernel
theorem dX2_drawOne_169 : decode cX2_drawOne 169 = .ok (.iaload, 1) := by decide +kernel
theorem dX2_drawOne_170 : decode cX2_drawOne 170 = .ok (.aload_n 0, 1) := by decide +kernel
theorem dX2_drawOne_171 : decode cX2_drawOne 171 = .ok (.getfield 59, 3) := by decide +kernel
theorem dX2_drawOne_174 : decode cX2_drawOne 174 = .ok (.aload_n 1, 1) := by decide +kernel
theorem dX2_drawOne_175 : decode cX2_drawOne 175 = .ok (.getfield 69, 3) := by decide +kernel
theorem dX2_drawOne_178 : decode cX2_drawOne 178 = .ok (.iload_n 3, 1) := by decide +kernel
theorem dX2_drawOne_179 : decode cX2_drawOne 179 = .ok (.iconst 0, 1) := by decide +kernel
theorem dX2_drawOne_180 : decode cX2_drawOne 180 = .ok (.invokevirtual 101, 3) := by decide +kernel
theorem dX2_drawOne_183 : decode cX2_drawOne 183 = .ok (.iadd, 1) := by decide +kernel
theorem dX2_drawOne_184 : decode cX2_drawOne 184 = .ok (.iastore, 1) := by decide +kernel
theorem dX2_drawOne_185 : decode cX2_drawOne 185 = .ok (.aload_n 0, 1) := by decide +kernel
theorem dX2_drawOne_186 : decode cX2_drawOne 186 = .ok (.getfield 21, 3) := by decide +kernel
theorem dX2_drawOne_189 : decode cX2_drawOne 189 = .ok (.iload 4, 2) := by decide +kernel
theorem dX2_drawOne_191 : decode cX2_drawOne 191 = .ok (.dup2, 1) := by decide +kernel
theorem dX2_drawOne_192 : decode cX2_drawOne 192 = .ok (.iaload, 1) := by decide +kernel
theorem dX2_drawOne_193 : decode cX2_drawOne 193 = .ok (.aload_n 0, 1) := by decide +kernel
theorem dX2_drawOne_194 : decode cX2_drawOne 194 = .ok (.getfield 59, 3) := by decide +kernel
theorem dX2_drawOne_197 : decode cX2_drawOne 197 = .ok (.aload_n 1, 1) := by decide +kernel
theorem dX2_drawOne_198 : decode cX2_drawOne 198 = .ok (.getfield 69, 3) := by decide +kernel
theorem dX2_drawOne_201 : decode cX2_drawOne 201 = .ok (.iload_n 3, 1) := by decide +kernel
theorem dX2_drawOne_202 : decode cX2_drawOne 202 = .ok (.iconst 1, 1) := by decide +kernel
theorem dX2_drawOne_203 : decode cX2_drawOne 203 = .ok (.invokevirtual 101, 3) := by decide +kernel
theorem dX2_drawOne_206 : decode cX2_drawOne 206 = .ok (.iadd, 1) := by decide +kernel
theorem dX2_drawOne_207 : decode cX2_drawOne 207 = .ok (.iastore, 1) := by decide +kernel
theorem dX2_drawOne_208 : decode cX2_drawOne 208 = .ok (.iinc 3 1, 3) := by decide +kernel
theorem dX2_drawOne_211 : decode cX2_drawOne 211 = .ok (.goto (-133), 3) := by decide +kernel
theorem dX2_drawOne_214 : decode cX2_drawOne 214 = .ok (.return_, 1) := by decide +kernel
set_option maxRecDepth 100000 in
set_option maxHeartbeats 4000000 in
theorem wp_X2_drawOne {n0 d : Nat} {K : z_K} {I : z_I} {L : z_L} {Q : z_q} {p0 : Nat} (hL : CLay K) (h : Z n0 xX2_drawOne (d + 1) 0 0 4 [(0, .ref (n0 + 8)), (1, .ref (n0 + p0)), (2, .int 1), (3, .int 0)] [] K I L (z_q0 K Q)) : RM0 n0 xX2_drawOne (d + 1) [.ref (n0 + 8), .ref (n0 + p0)] K I L Q := by
  refine z_entry0 (by decide) (Nat.le_of_ble_eq_true rfl) ?_
  change Z n0 xX2_drawOne (d + 1) 0 0 0 [(0, .ref (n0 + 8)), (1, .ref (n0 + p0))] [] K I L (z_q0 K Q)
  refine z_iconst 1 dX2_drawOne_0 (by decide) ?_
  refine z_istore_n [1, 2, 0] [(0, .ref (n0 + 8)), (1, .ref (n0 + p0)), (2, .int 1)] dX2_drawOne_1 (by decide) rfl ?_
  refine z_iconst 0 dX2_drawOne_2 (by decide) ?_
  refine z_istore_n [1, 2, 3, 0] [(0, .ref (n0 + 8)), (1, .ref (n0 + p0)), (2, .int 1), (3, .int 0)] dX2_drawOne_3 (by decide) rfl ?_
  exact h
set_option maxRecDepth 100000 in
set_option maxHeartbeats 4000000 in
theorem wp_X2_drawOne_4 {n0 d : Nat} {rc rs : Nat} {K : z_K} {I : z_I} {L : z_L} {Q : z_q} {a1 : Nat} {a2 : Int32} {a3 : Int32} (hL : CLay K) (h : (if a2 = 0 then a1 < K.1 ∧ (K.2.1 a1).1 = 5 ∧ vp_in (I a1 0) 16 ∧ Z n0 xX2_drawOne (d + 1) rc rs 78 [(0, .ref (n0 + 8)), (1, .ref (n0 + a1)), (2, .int a2), (3, .int 0)] [] K (zI I 10 ((I a1 0).toNatClampNeg) (if a2 = 0 then 2 else 1)) L (z_q0 K Q) else a1 < K.1 ∧ (K.2.1 a1).1 = 5 ∧ (if a3 < (I a1 2) then RM0 n0 xX5_ruleOn d [.ref (n0 + a1), .int a3, .int (I 8 1)] K I L (fun vv I13 L14 => ∃ r15 : Option Nat, vv = some (zr n0 r15) ∧ ((r15 = none → (∀ o18, K.2.2 a1 3 = o18 → RM0 n0 xX2_takeFromBlock d [.ref (n0 + 8), zr n0 o18, .int a3] K I13 L14 (fun vv I19 L20 => ∃ r21 : Int32, vv = some (.int r21) ∧ Z n0 xX2_drawOne (d + 1) rc rs 4 [(0, .ref (n0 + 8)), (1, .ref (n0 + a1)), (2, .int r21), (3, .int (a3 + 1))] [] K I19 L20 (z_q0 K Q)))) ∧ (∀ q17, r15 = some q17 → RM0 n0 xX2_takeFromRule d [.ref (n0 + 8), .ref (n0 + q17), .int a3] K I13 L14 (fun vv I22 L23 => ∃ r24 : Int32, vv = some (.int r24) ∧ Z n0 xX2_drawOne (d + 1) rc rs 4 [(0, .ref (n0 + 8)), (1, .ref (n0 + a1)), (2, .int r24), (3, .int (a3 + 1))] [] K I22 L23 (z_q0 K Q))))) else vp_in (I a1 0) 16 ∧ Z n0 xX2_drawOne (d + 1) rc rs 78 [(0, .ref (n0 + 8)), (1, .ref (n0 + a1)), (2, .int a2), (3, .int 0)] [] K (zI I 10 ((I a1 0).toNatClampNeg) (if a2 = 0 then 2 else 1)) L (z_q0 K Q)))) : Z n0 xX2_drawOne (d + 1) rc rs 4 [(0, .ref (n0 + 8)), (1, .ref (n0 + a1)), (2, .int a2), (3, .int a3)] [] K I L (z_q0 K Q) := by
  refine z_iload_n 2 dX2_drawOne_4 rfl ?_
  refine z_if_eq 58 dX2_drawOne_5 (by decide) (fun g1 => ?_) (fun g1 => ?_)
  · rw [if_pos g1] at h
    refine z_aload_n 0 dX2_drawOne_58 rfl ?_
    refine fg_2_15 (some 10) rfl dX2_drawOne_59 (co_8 hL).1 (co_8 hL).2 (ca_10 hL).1 ?_
    refine z_aload_n 1 dX2_drawOne_62 rfl ?_
    obtain ⟨o2, o3, h⟩ := h
    refine fg_2_69 (I a1 0) rfl dX2_drawOne_63 o2 o3 rfl ?_
    refine z_iload_n 2 dX2_drawOne_66 rfl ?_
    have key5 : Z n0 xX2_drawOne (d + 1) rc rs 75 [(0, .ref (n0 + 8)), (1, .ref (n0 + a1)), (2, .int a2)] [.int (if a2 = 0 then 2 else 1), .int (I a1 0), .ref (n0 + 10)] K I L (z_q0 K Q) := by
      obtain ⟨o6, h⟩ := h
      refine z_iast dX2_drawOne_75 (ca_10 hL).2.1 (ca_10 hL).2.2 o6 ?_
      refine z_iconst 0 dX2_drawOne_76 (by decide) ?_
      refine z_istore_n [1, 2, 3, 0] [(0, .ref (n0 + 8)), (1, .ref (n0 + a1)), (2, .int a2), (3, .int 0)] dX2_drawOne_77 (by decide) rfl ?_
      exact h
    refine z_if_eq 74 dX2_drawOne_67 (by decide) (fun g4 => ?_) (fun g4 => ?_)
    · refine z_iconst 2 dX2_drawOne_74 (by decide) ?_
      have ee : ((if a2 = 0 then 2 else 1) : Int32) = 2 := by rw [if_pos g4]
      rw [ee] at key5
      clear ee
      refine z_sub [0, 1, 2] rfl ?_
      exact key5
    · refine z_iconst 1 dX2_drawOne_70 (by decide) ?_
      refine z_goto 75 dX2_drawOne_71 (by decide) ?_
      have ee : ((if a2 = 0 then 2 else 1) : Int32) = 1 := by rw [if_neg g4]
      rw [ee] at key5
      clear ee
      refine z_sub [0, 1, 2] rfl ?_
      exact key5
  · rw [if_neg g1] at h
    refine z_iload_n 3 dX2_drawOne_8 rfl ?_
    refine z_aload_n 1 dX2_drawOne_9 rfl ?_
    obtain ⟨o7, o8, h⟩ := h
    refine fg_2_80 (I a1 2) rfl dX2_drawOne_10 o7 o8 rfl ?_
    refine z_icmp_ge 58 dX2_drawOne_13 (by decide) (fun g9 => ?_) (fun g9 => ?_)
    · rw [if_neg g9] at h
      refine z_aload_n 0 dX2_drawOne_58 rfl ?_
      refine fg_2_15 (some 10) rfl dX2_drawOne_59 (co_8 hL).1 (co_8 hL).2 (ca_10 hL).1 ?_
      refine z_aload_n 1 dX2_drawOne_62 rfl ?_
      refine fg_2_69 (I a1 0) rfl dX2_drawOne_63 o7 o8 rfl ?_
      refine z_iload_n 2 dX2_drawOne_66 rfl ?_
      have key11 : Z n0 xX2_drawOne (d + 1) rc rs 75 [(0, .ref (n0 + 8)), (1, .ref (n0 + a1)), (2, .int a2)] [.int (if a2 = 0 then 2 else 1), .int (I a1 0), .ref (n0 + 10)] K I L (z_q0 K Q) := by
        obtain ⟨o12, h⟩ := h
        refine z_iast dX2_drawOne_75 (ca_10 hL).2.1 (ca_10 hL).2.2 o12 ?_
        refine z_iconst 0 dX2_drawOne_76 (by decide) ?_
        refine z_istore_n [1, 2, 3, 0] [(0, .ref (n0 + 8)), (1, .ref (n0 + a1)), (2, .int a2), (3, .int 0)] dX2_drawOne_77 (by decide) rfl ?_
        exact h
      refine z_if_eq 74 dX2_drawOne_67 (by decide) (fun g10 => ?_) (fun g10 => ?_)
      · refine z_iconst 2 dX2_drawOne_74 (by decide) ?_
        have ee : ((if a2 = 0 then 2 else 1) : Int32) = 2 := by rw [if_pos g10]
        rw [ee] at key11
        clear ee
        refine z_sub [0, 1, 2] rfl ?_
        exact key11
      · refine z_iconst 1 dX2_drawOne_70 (by decide) ?_
        refine z_goto 75 dX2_drawOne_71 (by decide) ?_
        have ee : ((if a2 = 0 then 2 else 1) : Int32) = 1 := by rw [if_neg g10]
        rw [ee] at key11
        clear ee
        refine z_sub [0, 1, 2] rfl ?_
        exact key11
    · rw [if_pos g9] at h
      refine z_aload_n 1 dX2_drawOne_16 rfl ?_
      refine z_iload_n 3 dX2_drawOne_17 rfl ?_
      refine z_aload_n 0 dX2_drawOne_18 rfl ?_
      refine fg_2_56 (I 8 1) rfl dX2_drawOne_19 (co_8 hL).1 (co_8 hL).2 rfl ?_
      refine z_callV0 (As := [.int a3, .int (I 8 1)]) (st := []) dX2_drawOne_22 hy_X5_ruleOn o7 o8 (by decide) wg_781 wg_763 wg_764 (Nat.le_refl _) (Nat.le_of_ble_eq_true rfl) (RM0.mono h ?_)
      clear h
      intro vv I13 L14 h
      obtain ⟨r15, rfl, h⟩ := h
      change Z n0 xX2_drawOne (d + 1) rc rs 25 [(0, .ref (n0 + 8)), (1, .ref (n0 + a1)), (2, .int a2), (3, .int a3)] [zr n0 r15] K I13 L14 (z_q0 K Q)
      refine z_astoreO [1, 2, 3, 4, 0] [(0, .ref (n0 + 8)), (1, .ref (n0 + a1)), (2, .int a2), (3, .int a3), (4, zr n0 r15)] dX2_drawOne_25 (by decide) (fun v hv => by subst hv; rfl) ?_
      refine z_aloadO 4 dX2_drawOne_27 rfl ?_
      refine z_ifnull 42 dX2_drawOne_29 (by decide) (fun g16 => ?_) (fun q17 g16 => ?_)
      · replace h := h.1 g16
        subst g16
        change Z n0 xX2_drawOne (d + 1) rc rs 42 [(0, .ref (n0 + 8)), (1, .ref (n0 + a1)), (2, .int a2), (3, .int a3), (4, .null)] [] K I13 L14 (z_q0 K Q)
        refine z_aload_n 0 dX2_drawOne_42 rfl ?_
        refine z_aload_n 1 dX2_drawOne_43 rfl ?_
        obtain ⟨o18, o18e⟩ : ∃ o, K.2.2 a1 3 = o := ⟨_, rfl⟩
        replace h := h o18 o18e
        refine fg_2_72 o18 rfl dX2_drawOne_44 o7 o8 o18e ?_
        refine z_iload_n 3 dX2_drawOne_47 rfl ?_
        refine z_callV0 (As := [zr n0 o18, .int a3]) (st := []) dX2_drawOne_48 hy_X2_takeFromBlock (co_8 hL).1 (co_8 hL).2 (by decide) wg_869 wg_871 wg_24 (Nat.le_refl _) (Nat.le_of_ble_eq_true rfl) (RM0.mono h ?_)
        clear h
        intro vv I19 L20 h
        obtain ⟨r21, rfl, h⟩ := h
        change Z n0 xX2_drawOne (d + 1) rc rs 51 [(0, .ref (n0 + 8)), (1, .ref (n0 + a1)), (2, .int a2), (3, .int a3), (4, .null)] [.int r21] K I19 L20 (z_q0 K Q)
        refine z_istore_n [1, 2, 0, 3, 4] [(0, .ref (n0 + 8)), (1, .ref (n0 + a1)), (2, .int r21), (3, .int a3), (4, .null)] dX2_drawOne_51 (by decide) rfl ?_
        refine z_iinc (j := 3) (a3 + 1) [1, 2, 3, 0, 4] [(0, .ref (n0 + 8)), (1, .ref (n0 + a1)), (2, .int r21), (3, .int (a3 + 1)), (4, .null)] dX2_drawOne_52 rfl rfl (by decide) rfl ?_
        refine z_goto 4 dX2_drawOne_55 (by decide) ?_
        refine z_sub [0, 1, 2, 3] rfl ?_
        exact h
      · replace h := h.2 q17 g16
        subst g16
        change Z n0 xX2_drawOne (d + 1) rc rs 32 [(0, .ref (n0 + 8)), (1, .ref (n0 + a1)), (2, .int a2), (3, .int a3), (4, .ref (n0 + q17))] [] K I13 L14 (z_q0 K Q)
        refine z_aload_n 0 dX2_drawOne_32 rfl ?_
        refine z_aload 4 dX2_drawOne_33 rfl ?_
        refine z_iload_n 3 dX2_drawOne_35 rfl ?_
        refine z_callV0 (As := [.ref (n0 + q17), .int a3]) (st := []) dX2_drawOne_36 hy_X2_takeFromRule (co_8 hL).1 (co_8 hL).2 (by decide) wg_847 wg_849 wg_21 (Nat.le_refl _) (Nat.le_of_ble_eq_true rfl) (RM0.mono h ?_)
        clear h
        intro vv I22 L23 h
        obtain ⟨r24, rfl, h⟩ := h
        change Z n0 xX2_drawOne (d + 1) rc rs 39 [(0, .ref (n0 + 8)), (1, .ref (n0 + a1)), (2, .int a2), (3, .int a3), (4, .ref (n0 + q17))] [.int r24] K I22 L23 (z_q0 K Q)
        refine z_goto 51 dX2_drawOne_39 (by decide) ?_
        refine z_istore_n [1, 2, 0, 3, 4] [(0, .ref (n0 + 8)), (1, .ref (n0 + a1)), (2, .int r24), (3, .int a3), (4, .ref (n0 + q17))] dX2_drawOne_51 (by decide) rfl ?_
        refine z_iinc (j := 3) (a3 + 1) [1, 2, 3, 0, 4] [(0, .ref (n0 + 8)), (1, .ref (n0 + a1)), (2, .int r24), (3, .int (a3 + 1)), (4, .ref (n0 + q17))] dX2_drawOne_52 rfl rfl (by decide) rfl ?_
        refine z_goto 4 dX2_drawOne_55 (by decide) ?_
        refine z_sub [0, 1, 2, 3] rfl ?_
        exact h
set_option maxRecDepth 100000 in
set_option maxHeartbeats 4000000 in
theorem wp_X2_drawOne_78 {n0 d : Nat} {rc rs : Nat} {K : z_K} {I : z_I} {L : z_L} {Q : z_q} {a1 : Nat} {a2 : Int32} {a3 : Int32} (hL : CLay K) (h : (if a2 = 0 then Q none I L else a1 < K.1 ∧ (K.2.1 a1).1 = 5 ∧ (if a3 < (I a1 2) then vp_in a3 10 ∧ (∃ q6, K.2.2 a1 6 = some q6 ∧ ∃ n7, q6 < K.1 ∧ K.2.1 q6 = (20, n7) ∧ vp_in a3 n7 ∧ vp_in (((I a1 0) * 10) + a3) 160 ∧ (∃ q12, K.2.2 a1 7 = some q12 ∧ ∃ n13, q12 < K.1 ∧ K.2.1 q12 = (20, n13) ∧ vp_in a3 n13 ∧ (∀ o17, K.2.2 8 2 = o17 → ((o17 = none → Z n0 xX2_drawOne (d + 1) rc rs 78 [(0, .ref (n0 + 8)), (1, .ref (n0 + a1)), (2, .int a2), (3, .int (a3 + 1))] [] K (zI (zI I 11 ((((I a1 0) * 10) + a3).toNatClampNeg) ((I 13 a3.toNatClampNeg) + ((I q6 a3.toNatClampNeg) * ((I 8 0) - 5)))) 12 ((((I a1 0) * 10) + a3).toNatClampNeg) ((I 14 a3.toNatClampNeg) + (((zI I 11 ((((I a1 0) * 10) + a3).toNatClampNeg) ((I 13 a3.toNatClampNeg) + ((I q6 a3.toNatClampNeg) * ((I 8 0) - 5)))) q12 a3.toNatClampNeg) * ((I 8 0) - 5)))) L (z_q0 K Q)) ∧ (∀ q19, o17 = some q19 → q19 < K.1 ∧ (K.2.1 q19).1 = 0 ∧ RM0 n0 xX0_moveOf d [.ref (n0 + q19), .int ((zI (zI I 11 ((((I a1 0) * 10) + a3).toNatClampNeg) ((I 13 a3.toNatClampNeg) + ((I q6 a3.toNatClampNeg) * ((I 8 0) - 5)))) 12 ((((I a1 0) * 10) + a3).toNatClampNeg) ((I 14 a3.toNatClampNeg) + (((zI I 11 ((((I a1 0) * 10) + a3).toNatClampNeg) ((I 13 a3.toNatClampNeg) + ((I q6 a3.toNatClampNeg) * ((I 8 0) - 5)))) q12 a3.toNatClampNeg) * ((I 8 0) - 5)))) a1 0), .int a3, .int 0] K (zI (zI I 11 ((((I a1 0) * 10) + a3).toNatClampNeg) ((I 13 a3.toNatClampNeg) + ((I q6 a3.toNatClampNeg) * ((I 8 0) - 5)))) 12 ((((I a1 0) * 10) + a3).toNatClampNeg) ((I 14 a3.toNatClampNeg) + (((zI I 11 ((((I a1 0) * 10) + a3).toNatClampNeg) ((I 13 a3.toNatClampNeg) + ((I q6 a3.toNatClampNeg) * ((I 8 0) - 5)))) q12 a3.toNatClampNeg) * ((I 8 0) - 5)))) L (fun vv I22 L23 => ∃ r24 : Int32, vv = some (.int r24) ∧ RM0 n0 xX0_moveOf d [.ref (n0 + q19), .int ((zI I22 11 ((((I a1 0) * 10) + a3).toNatClampNeg) (((zI (zI I 11 ((((I a1 0) * 10) + a3).toNatClampNeg) ((I 13 a3.toNatClampNeg) + ((I q6 a3.toNatClampNeg) * ((I 8 0) - 5)))) 12 ((((I a1 0) * 10) + a3).toNatClampNeg) ((I 14 a3.toNatClampNeg) + (((zI I 11 ((((I a1 0) * 10) + a3).toNatClampNeg) ((I 13 a3.toNatClampNeg) + ((I q6 a3.toNatClampNeg) * ((I 8 0) - 5)))) q12 a3.toNatClampNeg) * ((I 8 0) - 5)))) 11 ((((I a1 0) * 10) + a3).toNatClampNeg)) + r24)) a1 0), .int a3, .int 1] K (zI I22 11 ((((I a1 0) * 10) + a3).toNatClampNeg) (((zI (zI I 11 ((((I a1 0) * 10) + a3).toNatClampNeg) ((I 13 a3.toNatClampNeg) + ((I q6 a3.toNatClampNeg) * ((I 8 0) - 5)))) 12 ((((I a1 0) * 10) + a3).toNatClampNeg) ((I 14 a3.toNatClampNeg) + (((zI I 11 ((((I a1 0) * 10) + a3).toNatClampNeg) ((I 13 a3.toNatClampNeg) + ((I q6 a3.toNatClampNeg) * ((I 8 0) - 5)))) q12 a3.toNatClampNeg) * ((I 8 0) - 5)))) 11 ((((I a1 0) * 10) + a3).toNatClampNeg)) + r24)) L23 (fun vv I25 L26 => ∃ r27 : Int32, vv = some (.int r27) ∧ Z n0 xX2_drawOne (d + 1) rc rs 78 [(0, .ref (n0 + 8)), (1, .ref (n0 + a1)), (2, .int a2), (3, .int (a3 + 1))] [] K (zI I25 12 ((((I a1 0) * 10) + a3).toNatClampNeg) ((I22 12 ((((I a1 0) * 10) + a3).toNatClampNeg)) + r27)) L26 (z_q0 K Q)))))))) else Q none I L))) : Z n0 xX2_drawOne (d + 1) rc rs 78 [(0, .ref (n0 + 8)), (1, .ref (n0 + a1)), (2, .int a2), (3, .int a3)] [] K I L (z_q0 K Q) := by
  refine z_iload_n 2 dX2_drawOne_78 rfl ?_
  refine z_if_eq 214 dX2_drawOne_79 (by decide) (fun g1 => ?_) (fun g1 => ?_)
  · rw [if_pos g1] at h
    exact z_vret dX2_drawOne_214 rfl ⟨rfl, h⟩
  · rw [if_neg g1] at h
    refine z_iload_n 3 dX2_drawOne_82 rfl ?_
    refine z_aload_n 1 dX2_drawOne_83 rfl ?_
    obtain ⟨o2, o3, h⟩ := h
    refine fg_2_80 (I a1 2) rfl dX2_drawOne_84 o2 o3 rfl ?_
    refine z_icmp_ge 214 dX2_drawOne_87 (by decide) (fun g4 => ?_) (fun g4 => ?_)
    · rw [if_neg g4] at h
      exact z_vret dX2_drawOne_214 rfl ⟨rfl, h⟩
    · rw [if_pos g4] at h
      refine z_aload_n 1 dX2_drawOne_90 rfl ?_
      refine fg_2_69 (I a1 0) rfl dX2_drawOne_91 o2 o3 rfl ?_
      refine z_bipush 10 dX2_drawOne_94 (by decide) ?_
      refine z_imul dX2_drawOne_96 ?_
      refine z_iload_n 3 dX2_drawOne_97 rfl ?_
      refine z_iadd dX2_drawOne_98 ?_
      refine z_istore [1, 2, 3, 4, 0] [(0, .ref (n0 + 8)), (1, .ref (n0 + a1)), (2, .int a2), (3, .int a3), (4, .int (((I a1 0) * 10) + a3))] dX2_drawOne_99 (by decide) rfl ?_
      refine z_aload_n 0 dX2_drawOne_101 rfl ?_
      refine fg_2_52 (I 8 0) rfl dX2_drawOne_102 (co_8 hL).1 (co_8 hL).2 rfl ?_
      refine z_iconst 5 dX2_drawOne_105 (by decide) ?_
      refine z_isub dX2_drawOne_106 ?_
      refine z_istore [1, 2, 3, 4, 5, 0] [(0, .ref (n0 + 8)), (1, .ref (n0 + a1)), (2, .int a2), (3, .int a3), (4, .int (((I a1 0) * 10) + a3)), (5, .int ((I 8 0) - 5))] dX2_drawOne_107 (by decide) rfl ?_
      refine z_aload_n 0 dX2_drawOne_109 rfl ?_
      refine fg_2_18 (some 11) rfl dX2_drawOne_110 (co_8 hL).1 (co_8 hL).2 (ca_11 hL).1 ?_
      refine z_iload 4 dX2_drawOne_113 rfl ?_
      refine z_aload_n 0 dX2_drawOne_115 rfl ?_
      refine fg_2_24 (some 13) rfl dX2_drawOne_116 (co_8 hL).1 (co_8 hL).2 (ca_13 hL).1 ?_
      refine z_iload_n 3 dX2_drawOne_119 rfl ?_
      obtain ⟨o5, h⟩ := h
      refine z_iald (I 13 a3.toNatClampNeg) dX2_drawOne_120 (ca_13 hL).2.1 (ca_13 hL).2.2 o5 rfl ?_
      refine z_aload_n 1 dX2_drawOne_121 rfl ?_
      obtain ⟨q6, q6e, h⟩ := h
      refine fg_2_95 (some q6) rfl dX2_drawOne_122 o2 o3 q6e ?_
      refine z_iload_n 3 dX2_drawOne_125 rfl ?_
      obtain ⟨n7, o8, o9, o10, h⟩ := h
      refine z_iald (I q6 a3.toNatClampNeg) dX2_drawOne_126 o8 o9 o10 rfl ?_
      refine z_iload 5 dX2_drawOne_127 rfl ?_
      refine z_imul dX2_drawOne_129 ?_
      refine z_iadd dX2_drawOne_130 ?_
      obtain ⟨o11, h⟩ := h
      refine z_iast dX2_drawOne_131 (ca_11 hL).2.1 (ca_11 hL).2.2 o11 ?_
      refine z_aload_n 0 dX2_drawOne_132 rfl ?_
      refine fg_2_21 (some 12) rfl dX2_drawOne_133 (co_8 hL).1 (co_8 hL).2 (ca_12 hL).1 ?_
      refine z_iload 4 dX2_drawOne_136 rfl ?_
      refine z_aload_n 0 dX2_drawOne_138 rfl ?_
      refine fg_2_27 (some 14) rfl dX2_drawOne_139 (co_8 hL).1 (co_8 hL).2 (ca_14 hL).1 ?_
      refine z_iload_n 3 dX2_drawOne_142 rfl ?_
      refine z_iald (I 14 a3.toNatClampNeg) dX2_drawOne_143 (ca_14 hL).2.1 (ca_14 hL).2.2 o5 rfl ?_
      refine z_aload_n 1 dX2_drawOne_144 rfl ?_
      obtain ⟨q12, q12e, h⟩ := h
      refine fg_2_98 (some q12) rfl dX2_drawOne_145 o2 o3 q12e ?_
      refine z_iload_n 3 dX2_drawOne_148 rfl ?_
      obtain ⟨n13, o14, o15, o16, h⟩ := h
      refine z_iald ((zI I 11 ((((I a1 0) * 10) + a3).toNatClampNeg) ((I 13 a3.toNatClampNeg) + ((I q6 a3.toNatClampNeg) * ((I 8 0) - 5)))) q12 a3.toNatClampNeg) dX2_drawOne_149 o14 o15 o16 rfl ?_
      refine z_iload 5 dX2_drawOne_150 rfl ?_
      refine z_imul dX2_drawOne_152 ?_
      refine z_iadd dX2_drawOne_153 ?_
      refine z_iast dX2_drawOne_154 (ca_12 hL).2.1 (ca_12 hL).2.2 o11 ?_
      refine z_aload_n 0 dX2_drawOne_155 rfl ?_
      obtain ⟨o17, o17e⟩ : ∃ o, K.2.2 8 2 = o := ⟨_, rfl⟩
      replace h := h o17 o17e
      refine fg_2_59 o17 rfl dX2_drawOne_156 (co_8 hL).1 (co_8 hL).2 o17e ?_
      refine z_ifnull 208 dX2_drawOne_159 (by decide) (fun g18 => ?_) (fun q19 g18 => ?_)
      · replace h := h.1 g18
        subst g18
        change Z n0 xX2_drawOne (d + 1) rc rs 208 [(0, .ref (n0 + 8)), (1, .ref (n0 + a1)), (2, .int a2), (3, .int a3), (4, .int (((I a1 0) * 10) + a3)), (5, .int ((I 8 0) - 5))] [] K (zI (zI I 11 ((((I a1 0) * 10) + a3).toNatClampNeg) ((I 13 a3.toNatClampNeg) + ((I q6 a3.toNatClampNeg) * ((I 8 0) - 5)))) 12 ((((I a1 0) * 10) + a3).toNatClampNeg) ((I 14 a3.toNatClampNeg) + (((zI I 11 ((((I a1 0) * 10) + a3).toNatClampNeg) ((I 13 a3.toNatClampNeg) + ((I q6 a3.toNatClampNeg) * ((I 8 0) - 5)))) q12 a3.toNatClampNeg) * ((I 8 0) - 5)))) L (z_q0 K Q)
        refine z_iinc (j := 3) (a3 + 1) [1, 2, 3, 0, 4, 5] [(0, .ref (n0 + 8)), (1, .ref (n0 + a1)), (2, .int a2), (3, .int (a3 + 1)), (4, .int (((I a1 0) * 10) + a3)), (5, .int ((I 8 0) - 5))] dX2_drawOne_208 rfl rfl (by decide) rfl ?_
        refine z_goto 78 dX2_drawOne_211 (by decide) ?_
        refine z_sub [0, 1, 2, 3] rfl ?_
        exact h
      · replace h := h.2 q19 g18
        subst g18
        change Z n0 xX2_drawOne (d + 1) rc rs 162 [(0, .ref (n0 + 8)), (1, .ref (n0 + a1)), (2, .int a2), (3, .int a3), (4, .int (((I a1 0) * 10) + a3)), (5, .int ((I 8 0) - 5))] [] K (zI (zI I 11 ((((I a1 0) * 10) + a3).toNatClampNeg) ((I 13 a3.toNatClampNeg) + ((I q6 a3.toNatClampNeg) * ((I 8 0) - 5)))) 12 ((((I a1 0) * 10) + a3).toNatClampNeg) ((I 14 a3.toNatClampNeg) + (((zI I 11 ((((I a1 0) * 10) + a3).toNatClampNeg) ((I 13 a3.toNatClampNeg) + ((I q6 a3.toNatClampNeg) * ((I 8 0) - 5)))) q12 a3.toNatClampNeg) * ((I 8 0) - 5)))) L (z_q0 K Q)
        refine z_aload_n 0 dX2_drawOne_162 rfl ?_
        refine fg_2_18 (some 11) rfl dX2_drawOne_163 (co_8 hL).1 (co_8 hL).2 (ca_11 hL).1 ?_
        refine z_iload 4 dX2_drawOne_166 rfl ?_
        refine z_dup2 dX2_drawOne_168 rfl rfl ?_
        refine z_iald ((zI (zI I 11 ((((I a1 0) * 10) + a3).toNatClampNeg) ((I 13 a3.toNatClampNeg) + ((I q6 a3.toNatClampNeg) * ((I 8 0) - 5)))) 12 ((((I a1 0) * 10) + a3).toNatClampNeg) ((I 14 a3.toNatClampNeg) + (((zI I 11 ((((I a1 0) * 10) + a3).toNatClampNeg) ((I 13 a3.toNatClampNeg) + ((I q6 a3.toNatClampNeg) * ((I 8 0) - 5)))) q12 a3.toNatClampNeg) * ((I 8 0) - 5)))) 11 ((((I a1 0) * 10) + a3).toNatClampNeg)) dX2_drawOne_169 (ca_11 hL).2.1 (ca_11 hL).2.2 o11 rfl ?_
        refine z_aload_n 0 dX2_drawOne_170 rfl ?_
        refine fg_2_59 (some q19) rfl dX2_drawOne_171 (co_8 hL).1 (co_8 hL).2 o17e ?_
        refine z_aload_n 1 dX2_drawOne_174 rfl ?_
        refine fg_2_69 ((zI (zI I 11 ((((I a1 0) * 10) + a3).toNatClampNeg) ((I 13 a3.toNatClampNeg) + ((I q6 a3.toNatClampNeg) * ((I 8 0) - 5)))) 12 ((((I a1 0) * 10) + a3).toNatClampNeg) ((I 14 a3.toNatClampNeg) + (((zI I 11 ((((I a1 0) * 10) + a3).toNatClampNeg) ((I 13 a3.toNatClampNeg) + ((I q6 a3.toNatClampNeg) * ((I 8 0) - 5)))) q12 a3.toNatClampNeg) * ((I 8 0) - 5)))) a1 0) rfl dX2_drawOne_175 o2 o3 rfl ?_
        refine z_iload_n 3 dX2_drawOne_178 rfl ?_
        refine z_iconst 0 dX2_drawOne_179 (by decide) ?_
        obtain ⟨o20, o21, h⟩ := h
        refine z_callV0 (As := [.int ((zI (zI I 11 ((((I a1 0) * 10) + a3).toNatClampNeg) ((I 13 a3.toNatClampNeg) + ((I q6 a3.toNatClampNeg) * ((I 8 0) - 5)))) 12 ((((I a1 0) * 10) + a3).toNatClampNeg) ((I 14 a3.toNatClampNeg) + (((zI I 11 ((((I a1 0) * 10) + a3).toNatClampNeg) ((I 13 a3.toNatClampNeg) + ((I q6 a3.toNatClampNeg) * ((I 8 0) - 5)))) q12 a3.toNatClampNeg) * ((I 8 0) - 5)))) a1 0), .int a3, .int 0]) (st := [.int ((zI (zI I 11 ((((I a1 0) * 10) + a3).toNatClampNeg) ((I 13 a3.toNatClampNeg) + ((I q6 a3.toNatClampNeg) * ((I 8 0) - 5)))) 12 ((((I a1 0) * 10) + a3).toNatClampNeg) ((I 14 a3.toNatClampNeg) + (((zI I 11 ((((I a1 0) * 10) + a3).toNatClampNeg) ((I 13 a3.toNatClampNeg) + ((I q6 a3.toNatClampNeg) * ((I 8 0) - 5)))) q12 a3.toNatClampNeg) * ((I 8 0) - 5)))) 11 ((((I a1 0) * 10) + a3).toNatClampNeg)), .int (((I a1 0) * 10) + a3), .ref (n0 + 11)]) dX2_drawOne_180 hy_X0_moveOf o20 o21 (by decide) wg_878 wg_879 wg_880 (Nat.le_refl _) (Nat.le_of_ble_eq_true rfl) (RM0.mono h ?_)
        clear h
        intro vv I22 L23 h
        obtain ⟨r24, rfl, h⟩ := h
        change Z n0 xX2_drawOne (d + 1) rc rs 183 [(0, .ref (n0 + 8)), (1, .ref (n0 + a1)), (2, .int a2), (3, .int a3), (4, .int (((I a1 0) * 10) + a3)), (5, .int ((I 8 0) - 5))] [.int r24, .int ((zI (zI I 11 ((((I a1 0) * 10) + a3).toNatClampNeg) ((I 13 a3.toNatClampNeg) + ((I q6 a3.toNatClampNeg) * ((I 8 0) - 5)))) 12 ((((I a1 0) * 10) + a3).toNatClampNeg) ((I 14 a3.toNatClampNeg) + (((zI I 11 ((((I a1 0) * 10) + a3).toNatClampNeg) ((I 13 a3.toNatClampNeg) + ((I q6 a3.toNatClampNeg) * ((I 8 0) - 5)))) q12 a3.toNatClampNeg) * ((I 8 0) - 5)))) 11 ((((I a1 0) * 10) + a3).toNatClampNeg)), .int (((I a1 0) * 10) + a3), .ref (n0 + 11)] K I22 L23 (z_q0 K Q)
        refine z_iadd dX2_drawOne_183 ?_
        refine z_iast dX2_drawOne_184 (ca_11 hL).2.1 (ca_11 hL).2.2 o11 ?_
        refine z_aload_n 0 dX2_drawOne_185 rfl ?_
        refine fg_2_21 (some 12) rfl dX2_drawOne_186 (co_8 hL).1 (co_8 hL).2 (ca_12 hL).1 ?_
        refine z_iload 4 dX2_drawOne_189 rfl ?_
        refine z_dup2 dX2_drawOne_191 rfl rfl ?_
        refine z_iald (I22 12 ((((I a1 0) * 10) + a3).toNatClampNeg)) dX2_drawOne_192 (ca_12 hL).2.1 (ca_12 hL).2.2 o11 rfl ?_
        refine z_aload_n 0 dX2_drawOne_193 rfl ?_
        refine fg_2_59 (some q19) rfl dX2_drawOne_194 (co_8 hL).1 (co_8 hL).2 o17e ?_
        refine z_aload_n 1 dX2_drawOne_197 rfl ?_
        refine fg_2_69 ((zI I22 11 ((((I a1 0) * 10) + a3).toNatClampNeg) (((zI (zI I 11 ((((I a1 0) * 10) + a3).toNatClampNeg) ((I 13 a3.toNatClampNeg) + ((I q6 a3.toNatClampNeg) * ((I 8 0) - 5)))) 12 ((((I a1 0) * 10) + a3).toNatClampNeg) ((I 14 a3.toNatClampNeg) + (((zI I 11 ((((I a1 0) * 10) + a3).toNatClampNeg) ((I 13 a3.toNatClampNeg) + ((I q6 a3.toNatClampNeg) * ((I 8 0) - 5)))) q12 a3.toNatClampNeg) * ((I 8 0) - 5)))) 11 ((((I a1 0) * 10) + a3).toNatClampNeg)) + r24)) a1 0) rfl dX2_drawOne_198 o2 o3 rfl ?_
        refine z_iload_n 3 dX2_drawOne_201 rfl ?_
        refine z_iconst 1 dX2_drawOne_202 (by decide) ?_
        refine z_callV0 (As := [.int ((zI I22 11 ((((I a1 0) * 10) + a3).toNatClampNeg) (((zI (zI I 11 ((((I a1 0) * 10) + a3).toNatClampNeg) ((I 13 a3.toNatClampNeg) + ((I q6 a3.toNatClampNeg) * ((I 8 0) - 5)))) 12 ((((I a1 0) * 10) + a3).toNatClampNeg) ((I 14 a3.toNatClampNeg) + (((zI I 11 ((((I a1 0) * 10) + a3).toNatClampNeg) ((I 13 a3.toNatClampNeg) + ((I q6 a3.toNatClampNeg) * ((I 8 0) - 5)))) q12 a3.toNatClampNeg) * ((I 8 0) - 5)))) 11 ((((I a1 0) * 10) + a3).toNatClampNeg)) + r24)) a1 0), .int a3, .int 1]) (st := [.int (I22 12 ((((I a1 0) * 10) + a3).toNatClampNeg)), .int (((I a1 0) * 10) + a3), .ref (n0 + 12)]) dX2_drawOne_203 hy_X0_moveOf o20 o21 (by decide) wg_878 wg_879 wg_880 (Nat.le_refl _) (Nat.le_of_ble_eq_true rfl) (RM0.mono h ?_)
        clear h
        intro vv I25 L26 h
        obtain ⟨r27, rfl, h⟩ := h
        change Z n0 xX2_drawOne (d + 1) rc rs 206 [(0, .ref (n0 + 8)), (1, .ref (n0 + a1)), (2, .int a2), (3, .int a3), (4, .int (((I a1 0) * 10) + a3)), (5, .int ((I 8 0) - 5))] [.int r27, .int (I22 12 ((((I a1 0) * 10) + a3).toNatClampNeg)), .int (((I a1 0) * 10) + a3), .ref (n0 + 12)] K I25 L26 (z_q0 K Q)
        refine z_iadd dX2_drawOne_206 ?_
        refine z_iast dX2_drawOne_207 (ca_12 hL).2.1 (ca_12 hL).2.2 o11 ?_
        refine z_iinc (j := 3) (a3 + 1) [1, 2, 3, 0, 4, 5] [(0, .ref (n0 + 8)), (1, .ref (n0 + a1)), (2, .int a2), (3, .int (a3 + 1)), (4, .int (((I a1 0) * 10) + a3)), (5, .int ((I 8 0) - 5))] dX2_drawOne_208 rfl rfl (by decide) rfl ?_
        refine z_goto 78 dX2_drawOne_211 (by decide) ?_
        refine z_sub [0, 1, 2, 3] rfl ?_
        exact h
theorem dX2_takeFromRule_0 : decode cX2_takeFromRule 0 = .ok (.aload_n 0, 1) := by decide +kernel
theorem dX2_takeFromRule_1 : decode cX2_takeFromRule 1 = .ok (.aload_n 1, 1) := by decide +kernel
theorem dX2_takeFromRule_2 : decode cX2_takeFromRule 2 = .ok (.getfield 107, 3) := by decide +kernel
theorem dX2_takeFromRule_5 : decode cX2_takeFromRule 5 = .ok (.invokevirtual 112, 3) := by decide +kernel
theorem dX2_takeFromRule_8 : decode cX2_takeFromRule 8 = .ok (.lstore_n 3, 1) := by decide +kernel
theorem dX2_takeFromRule_9 : decode cX2_takeFromRule 9 = .ok (.aload_n 0, 1) := by decide +kernel
theorem dX2_takeFromRule_10 : decode cX2_takeFromRule 10 = .ok (.aload_n 1, 1) := by decide +kernel
theorem dX2_takeFromRule_11 : decode cX2_takeFromRule 11 = .ok (.getfield 116, 3) := by decide +kernel
theorem dX2_takeFromRule_14 : decode cX2_takeFromRule 14 = .ok (.invokevirtual 112, 3) := by decide +kernel
theorem dX2_takeFromRule_17 : decode cX2_takeFromRule 17 = .ok (.lstore 5, 2) := by decide +kernel
theorem dX2_takeFromRule_19 : decode cX2_takeFromRule 19 = .ok (.lload_n 3, 1) := by decide +kernel
theorem dX2_takeFromRule_20 : decode cX2_takeFromRule 20 = .ok (.ldc2_w 119, 3) := by decide +kernel
theorem dX2_takeFromRule_23 : decode cX2_takeFromRule 23 = .ok (.lcmp, 1) := by decide +kernel
theorem dX2_takeFromRule_24 : decode cX2_takeFromRule 24 = .ok (.ifCond .eq 12, 3) := by decide +kernel
theorem dX2_takeFromRule_27 : decode cX2_takeFromRule 27 = .ok (.lload 5, 2) := by decide +kernel
theorem dX2_takeFromRule_29 : decode cX2_takeFromRule 29 = .ok (.ldc2_w 119, 3) := by decide +kernel
theorem dX2_takeFromRule_32 : decode cX2_takeFromRule 32 = .ok (.lcmp, 1) := by decide +kernel
theorem dX2_takeFromRule_33 : decode cX2_takeFromRule 33 = .ok (.ifCond .ne 5, 3) := by decide +kernel
theorem dX2_takeFromRule_36 : decode cX2_takeFromRule 36 = .ok (.iconst 0, 1) := by decide +kernel
theorem dX2_takeFromRule_37 : decode cX2_takeFromRule 37 = .ok (.ireturn, 1) := by decide +kernel
theorem dX2_takeFromRule_38 : decode cX2_takeFromRule 38 = .ok (.aload_n 0, 1) := by decide +kernel
theorem dX2_takeFromRule_39 : decode cX2_takeFromRule 39 = .ok (.getfield 24, 3) := by decide +kernel
theorem dX2_takeFromRule_42 : decode cX2_takeFromRule 42 = .ok (.iload_n 2, 1) := by decide +kernel
theorem dX2_takeFromRule_43 : decode cX2_takeFromRule 43 = .ok (.lload_n 3, 1) := by decide +kernel
theorem dX2_takeFromRule_44 : decode cX2_takeFromRule 44 = .ok (.l2i, 1) := by decide +kernel
theorem dX2_takeFromRule_45 : decode cX2_takeFromRule 45 = .ok (.iastore, 1) := by decide +kernel
theorem dX2_takeFromRule_46 : decode cX2_takeFromRule 46 = .ok (.aload_n 0, 1) := by decide +kernel
theorem dX2_takeFromRule_47 : decode cX2_takeFromRule 47 = .ok (.getfield 27, 3) := by decide +kernel
theorem dX2_takeFromRule_50 : decode cX2_takeFromRule 50 = .ok (.iload_n 2, 1) := by decide +kernel
theorem dX2_takeFromRule_51 : decode cX2_takeFromRule 51 = .ok (.lload 5, 2) := by decide +kernel
theorem dX2_takeFromRule_53 : decode cX2_takeFromRule 53 = .ok (.l2i, 1) := by decide +kernel
theorem dX2_takeFromRule_54 : decode cX2_takeFromRule 54 = .ok (.iastore, 1) := by decide +kernel
theorem dX2_takeFromRule_55 : decode cX2_takeFromRule 55 = .ok (.iconst 1, 1) := by decide +kernel
theorem dX2_takeFromRule_56 : decode cX2_takeFromRule 56 = .ok (.ireturn, 1) := by decide +kernel
set_option maxRecDepth 100000 in
set_option maxHeartbeats 4000000 in
theorem wp_X2_takeFromRule {n0 d : Nat} {K : z_K} {I : z_I} {L : z_L} {Q : z_q} {p0 : Nat} {p1 : Int32} (hL : CLay K) (h : p0 < K.1 ∧ (K.2.1 p0).1 = 6 ∧ (∃ q3, K.2.2 p0 1 = some q3 ∧ RM0 n0 xX2_valueOf d [.ref (n0 + 8), .ref (n0 + q3)] K I L (fun vv I4 L5 => ∃ r6 : Int64, vv = some (.long r6) ∧ (∃ q7, K.2.2 p0 2 = some q7 ∧ RM0 n0 xX2_valueOf d [.ref (n0 + 8), .ref (n0 + q7)] K I4 L5 (fun vv I8 L9 => ∃ r10 : Int64, vv = some (.long r10) ∧ (if r6 = (-1152921504606846976) then Q (some (.int 0)) I8 L9 else (if r10 = (-1152921504606846976) then Q (some (.int 0)) I8 L9 else vp_in p1 10 ∧ Q (some (.int 1)) (zI (zI I8 13 p1.toNatClampNeg r6.toInt32) 14 p1.toNatClampNeg r10.toInt32) L9))))))) : RM0 n0 xX2_takeFromRule (d + 1) [.ref (n0 + 8), .ref (n0 + p0), .int p1] K I L Q := by
  refine z_entry0 (by decide) (Nat.le_of_ble_eq_true rfl) ?_
  change Z n0 xX2_takeFromRule (d + 1) 0 0 0 [(0, .ref (n0 + 8)), (1, .ref (n0 + p0)), (2, .int p1)] [] K I L (z_q0 K Q)
  refine z_aload_n 0 dX2_takeFromRule_0 rfl ?_
  refine z_aload_n 1 dX2_takeFromRule_1 rfl ?_
  obtain ⟨o1, o2, h⟩ := h
  obtain ⟨q3, q3e, h⟩ := h
  refine fg_2_107 (some q3) rfl dX2_takeFromRule_2 o1 o2 q3e ?_
  refine z_callV0 (As := [.ref (n0 + q3)]) (st := []) dX2_takeFromRule_5 hy_X2_valueOf (co_8 hL).1 (co_8 hL).2 (by decide) wg_851 wg_853 wg_22 (Nat.le_refl _) (Nat.le_of_ble_eq_true rfl) (RM0.mono h ?_)
  clear h
  intro vv I4 L5 h
  obtain ⟨r6, rfl, h⟩ := h
  change Z n0 xX2_takeFromRule (d + 1) 0 0 8 [(0, .ref (n0 + 8)), (1, .ref (n0 + p0)), (2, .int p1)] [.long r6] K I4 L5 (z_q0 K Q)
  refine z_lstore_n [1, 2, 3, 0] [(0, .ref (n0 + 8)), (1, .ref (n0 + p0)), (2, .int p1), (3, .long r6)] dX2_takeFromRule_8 (by decide) rfl ?_
  refine z_aload_n 0 dX2_takeFromRule_9 rfl ?_
  refine z_aload_n 1 dX2_takeFromRule_10 rfl ?_
  obtain ⟨q7, q7e, h⟩ := h
  refine fg_2_116 (some q7) rfl dX2_takeFromRule_11 o1 o2 q7e ?_
  refine z_callV0 (As := [.ref (n0 + q7)]) (st := []) dX2_takeFromRule_14 hy_X2_valueOf (co_8 hL).1 (co_8 hL).2 (by decide) wg_851 wg_853 wg_22 (Nat.le_refl _) (Nat.le_of_ble_eq_true rfl) (RM0.mono h ?_)
  clear h
  intro vv I8 L9 h
  obtain ⟨r10, rfl, h⟩ := h
  change Z n0 xX2_takeFromRule (d + 1) 0 0 17 [(0, .ref (n0 + 8)), (1, .ref (n0 + p0)), (2, .int p1), (3, .long r6)] [.long r10] K I8 L9 (z_q0 K Q)
  refine z_lstore [1, 2, 3, 4, 0] [(0, .ref (n0 + 8)), (1, .ref (n0 + p0)), (2, .int p1), (3, .long r6), (5, .long r10)] dX2_takeFromRule_17 (by decide) rfl ?_
  refine z_lload_n 3 dX2_takeFromRule_19 rfl ?_
  refine z_ldc2_w (-1152921504606846976) dX2_takeFromRule_20 wg_855 ?_
  refine z_lif_eq 36 dX2_takeFromRule_23 dX2_takeFromRule_24 (by decide) (fun g11 => ?_) (fun g11 => ?_)
  · rw [if_pos g11] at h
    refine z_iconst 0 dX2_takeFromRule_36 (by decide) ?_
    exact z_zretb dX2_takeFromRule_37 rfl (Or.inl rfl) ⟨rfl, h⟩
  · rw [if_neg g11] at h
    refine z_lload 4 dX2_takeFromRule_27 rfl ?_
    refine z_ldc2_w (-1152921504606846976) dX2_takeFromRule_29 wg_855 ?_
    refine z_lif_ne 38 dX2_takeFromRule_32 dX2_takeFromRule_33 (by decide) (fun g12 => ?_) (fun g12 => ?_)
    · rw [if_neg g12] at h
      refine z_aload_n 0 dX2_takeFromRule_38 rfl ?_
      refine fg_2_24 (some 13) rfl dX2_takeFromRule_39 (co_8 hL).1 (co_8 hL).2 (ca_13 hL).1 ?_
      refine z_iload_n 2 dX2_takeFromRule_42 rfl ?_
      refine z_lload_n 3 dX2_takeFromRule_43 rfl ?_
      refine z_l2i dX2_takeFromRule_44 ?_
      obtain ⟨o13, h⟩ := h
      refine z_iast dX2_takeFromRule_45 (ca_13 hL).2.1 (ca_13 hL).2.2 o13 ?_
      refine z_aload_n 0 dX2_takeFromRule_46 rfl ?_
      refine fg_2_27 (some 14) rfl dX2_takeFromRule_47 (co_8 hL).1 (co_8 hL).2 (ca_14 hL).1 ?_
      refine z_iload_n 2 dX2_takeFromRule_50 rfl ?_
      refine z_lload 4 dX2_takeFromRule_51 rfl ?_
      refine z_l2i dX2_takeFromRule_53 ?_
      refine z_iast dX2_takeFromRule_54 (ca_14 hL).2.1 (ca_14 hL).2.2 o13 ?_
      refine z_iconst 1 dX2_takeFromRule_55 (by decide) ?_
      exact z_zretb dX2_takeFromRule_56 rfl (Or.inr rfl) ⟨rfl, h⟩
    · rw [if_pos g12] at h
      refine z_iconst 0 dX2_takeFromRule_36 (by decide) ?_
      exact z_zretb dX2_takeFromRule_37 rfl (Or.inl rfl) ⟨rfl, h⟩
theorem dX2_takeFromBlock_0 : decode cX2_takeFromBlock 0 = .ok (.aload_n 1, 1) := by decide +kernel
theorem dX2_takeFromBlock_1 : decode cX2_takeFromBlock 1 = .ok (.ifnull 24, 3) := by decide +kernel
theorem dX2_takeFromBlock_4 : decode cX2_takeFromBlock 4 = .ok (.aload_n 1, 1) := by decide +kernel
theorem dX2_takeFromBlock_5 : decode cX2_takeFromBlock 5 = .ok (.iload_n 2, 1) := by decide +kernel
theorem dX2_takeFromBlock_6 : decode cX2_takeFromBlock 6 = .ok (.invokevirtual 121, 3) := by decide +kernel
theorem dX2_takeFromBlock_9 : decode cX2_takeFromBlock 9 = .ok (.ifCond .eq 16, 3) := by decide +kernel
theorem dX2_takeFromBlock_12 : decode cX2_takeFromBlock 12 = .ok (.aload_n 0, 1) := by decide +kernel
theorem dX2_takeFromBlock_13 : decode cX2_takeFromBlock 13 = .ok (.getfield 15, 3) := by decide +kernel
theorem dX2_takeFromBlock_16 : decode cX2_takeFromBlock 16 = .ok (.aload_n 1, 1) := by decide +kernel
theorem dX2_takeFromBlock_17 : decode cX2_takeFromBlock 17 = .ok (.getfield 69, 3) := by decide +kernel
theorem dX2_takeFromBlock_20 : decode cX2_takeFromBlock 20 = .ok (.iaload, 1) := by decide +kernel
theorem dX2_takeFromBlock_21 : decode cX2_takeFromBlock 21 = .ok (.iconst 1, 1) := by decide +kernel
theorem dX2_takeFromBlock_22 : decode cX2_takeFromBlock 22 = .ok (.if_icmp .eq 5, 3) := by decide +kernel
theorem dX2_takeFromBlock_25 : decode cX2_takeFromBlock 25 = .ok (.iconst 0, 1) := by decide +kernel
theorem dX2_takeFromBlock_26 : decode cX2_takeFromBlock 26 = .ok (.ireturn, 1) := by decide +kernel
theorem dX2_takeFromBlock_27 : decode cX2_takeFromBlock 27 = .ok (.aload_n 0, 1) := by decide +kernel
theorem dX2_takeFromBlock_28 : decode cX2_takeFromBlock 28 = .ok (.getfield 24, 3) := by decide +kernel
theorem dX2_takeFromBlock_31 : decode cX2_takeFromBlock 31 = .ok (.iload_n 2, 1) := by decide +kernel
theorem dX2_takeFromBlock_32 : decode cX2_takeFromBlock 32 = .ok (.aload_n 0, 1) := by decide +kernel
theorem dX2_takeFromBlock_33 : decode cX2_takeFromBlock 33 = .ok (.aload_n 1, 1) := by decide +kernel
theorem dX2_takeFromBlock_34 : decode cX2_takeFromBlock 34 = .ok (.iload_n 2, 1) := by decide +kernel
theorem dX2_takeFromBlock_35 : decode cX2_takeFromBlock 35 = .ok (.iconst 0, 1) := by decide +kernel
theorem dX2_takeFromBlock_36 : decode cX2_takeFromBlock 36 = .ok (.invokevirtual 125, 3) := by decide +kernel
theorem dX2_takeFromBlock_39 : decode cX2_takeFromBlock 39 = .ok (.iastore, 1) := by decide +kernel
theorem dX2_takeFromBlock_40 : decode cX2_takeFromBlock 40 = .ok (.aload_n 0, 1) := by decide +kernel
theorem dX2_takeFromBlock_41 : decode cX2_takeFromBlock 41 = .ok (.getfield 27, 3) := by decide +kernel
theorem dX2_takeFromBlock_44 : decode cX2_takeFromBlock 44 = .ok (.iload_n 2, 1) := by decide +kernel
theorem dX2_takeFromBlock_45 : decode cX2_takeFromBlock 45 = .ok (.aload_n 0, 1) := by decide +kernel
theorem dX2_takeFromBlock_46 : decode cX2_takeFromBlock 46 = .ok (.aload_n 1, 1) := by decide +kernel
theorem dX2_takeFromBlock_47 : decode cX2_takeFromBlock 47 = .ok (.iload_n 2, 1) := by decide +kernel
theorem dX2_takeFromBlock_48 : decode cX2_takeFromBlock 48 = .ok (.iconst 1, 1) := by decide +kernel
theorem dX2_takeFromBlock_49 : decode cX2_takeFromBlock 49 = .ok (.invokevirtual 125, 3) := by decide +kernel
theorem dX2_takeFromBlock_52 : decode cX2_takeFromBlock 52 = .ok (.iastore, 1) := by decide +kernel
theorem dX2_takeFromBlock_53 : decode cX2_takeFromBlock 53 = .ok (.iconst 1, 1) := by decide +kernel
theorem dX2_takeFromBlock_54 : decode cX2_takeFromBlock 54 = .ok (.ireturn, 1) := by decide +kernel
set_option maxRecDepth 100000 in
set_option maxHeartbeats 4000000 in
theorem wp_X2_takeFromBlock {n0 d : Nat} {K : z_K} {I : z_I} {L : z_L} {Q : z_q} {p0 : Option Nat} {p1 : Int32} (hL : CLay K) (h : ((p0 = none → Q (some (.int 0)) I L) ∧ (∀ q2, p0 = some q2 → q2 < K.1 ∧ (K.2.1 q2).1 = 5 ∧ RM0 n0 xX5_has d [.ref (n0 + q2), .int p1] K I L (fun vv I5 L6 => ∃ r7 : Int32, vv = some (.int r7) ∧ (if r7 = 0 then Q (some (.int 0)) I5 L6 else vp_in (I5 q2 0) 16 ∧ (if ((I5 10 ((I5 q2 0).toNatClampNeg)) : Int32) = 1 then RM0 n0 xX2_placeOf d [.ref (n0 + 8), .ref (n0 + q2), .int p1, .int 0] K I5 L6 (fun vv I11 L12 => ∃ r13 : Int32, vv = some (.int r13) ∧ vp_in p1 10 ∧ RM0 n0 xX2_placeOf d [.ref (n0 + 8), .ref (n0 + q2), .int p1, .int 1] K (zI I11 13 p1.toNatClampNeg r13) L12 (fun vv I15 L16 => ∃ r17 : Int32, vv = some (.int r17) ∧ Q (some (.int 1)) (zI I15 14 p1.toNatClampNeg r17) L16)) else Q (some (.int 0)) I5 L6)))))) : RM0 n0 xX2_takeFromBlock (d + 1) [.ref (n0 + 8), zr n0 p0, .int p1] K I L Q := by
  refine z_entry0 (by decide) (by cases p0 <;> exact Nat.le_of_ble_eq_true rfl) ?_
  rw [show lv_args 0 [.ref (n0 + 8), zr n0 p0, .int p1] = [(0, .ref (n0 + 8)), (1, zr n0 p0), (2, .int p1)] by (cases p0 <;> rfl)]
  change Z n0 xX2_takeFromBlock (d + 1) 0 0 0 [(0, .ref (n0 + 8)), (1, zr n0 p0), (2, .int p1)] [] K I L (z_q0 K Q)
  refine z_aload_nO 1 dX2_takeFromBlock_0 rfl ?_
  refine z_ifnull 25 dX2_takeFromBlock_1 (by decide) (fun g1 => ?_) (fun q2 g1 => ?_)
  · replace h := h.1 g1
    subst g1
    change Z n0 xX2_takeFromBlock (d + 1) 0 0 25 [(0, .ref (n0 + 8)), (1, .null), (2, .int p1)] [] K I L (z_q0 K Q)
    refine z_iconst 0 dX2_takeFromBlock_25 (by decide) ?_
    exact z_zretb dX2_takeFromBlock_26 rfl (Or.inl rfl) ⟨rfl, h⟩
  · replace h := h.2 q2 g1
    subst g1
    change Z n0 xX2_takeFromBlock (d + 1) 0 0 4 [(0, .ref (n0 + 8)), (1, .ref (n0 + q2)), (2, .int p1)] [] K I L (z_q0 K Q)
    refine z_aload_n 1 dX2_takeFromBlock_4 rfl ?_
    refine z_iload_n 2 dX2_takeFromBlock_5 rfl ?_
    obtain ⟨o3, o4, h⟩ := h
    refine z_callV0 (As := [.int p1]) (st := []) dX2_takeFromBlock_6 hy_X5_has o3 o4 (by decide) wg_873 wg_660 wg_661 (Nat.le_refl _) (Nat.le_of_ble_eq_true rfl) (RM0.mono h ?_)
    clear h
    intro vv I5 L6 h
    obtain ⟨r7, rfl, h⟩ := h
    change Z n0 xX2_takeFromBlock (d + 1) 0 0 9 [(0, .ref (n0 + 8)), (1, .ref (n0 + q2)), (2, .int p1)] [.int r7] K I5 L6 (z_q0 K Q)
    refine z_if_eq 25 dX2_takeFromBlock_9 (by decide) (fun g8 => ?_) (fun g8 => ?_)
    · rw [if_pos g8] at h
      refine z_iconst 0 dX2_takeFromBlock_25 (by decide) ?_
      exact z_zretb dX2_takeFromBlock_26 rfl (Or.inl rfl) ⟨rfl, h⟩
    · rw [if_neg g8] at h
      refine z_aload_n 0 dX2_takeFromBlock_12 rfl ?_
      refine fg_2_15 (some 10) rfl dX2_takeFromBlock_13 (co_8 hL).1 (co_8 hL).2 (ca_10 hL).1 ?_
      refine z_aload_n 1 dX2_takeFromBlock_16 rfl ?_
      refine fg_2_69 (I5 q2 0) rfl dX2_takeFromBlock_17 o3 o4 rfl ?_
      obtain ⟨o9, h⟩ := h
      refine z_iald (I5 10 ((I5 q2 0).toNatClampNeg)) dX2_takeFromBlock_20 (ca_10 hL).2.1 (ca_10 hL).2.2 o9 rfl ?_
      refine z_iconst 1 dX2_takeFromBlock_21 (by decide) ?_
      refine z_icmp_eq 27 dX2_takeFromBlock_22 (by decide) (fun g10 => ?_) (fun g10 => ?_)
      · rw [if_pos g10] at h
        refine z_aload_n 0 dX2_takeFromBlock_27 rfl ?_
        refine fg_2_24 (some 13) rfl dX2_takeFromBlock_28 (co_8 hL).1 (co_8 hL).2 (ca_13 hL).1 ?_
        refine z_iload_n 2 dX2_takeFromBlock_31 rfl ?_
        refine z_aload_n 0 dX2_takeFromBlock_32 rfl ?_
        refine z_aload_n 1 dX2_takeFromBlock_33 rfl ?_
        refine z_iload_n 2 dX2_takeFromBlock_34 rfl ?_
        refine z_iconst 0 dX2_takeFromBlock_35 (by decide) ?_
        refine z_callV0 (As := [.ref (n0 + q2), .int p1, .int 0]) (st := [.int p1, .ref (n0 + 13)]) dX2_takeFromBlock_36 hy_X2_placeOf (co_8 hL).1 (co_8 hL).2 (by decide) wg_874 wg_875 wg_876 (Nat.le_refl _) (Nat.le_of_ble_eq_true rfl) (RM0.mono h ?_)
        clear h
        intro vv I11 L12 h
        obtain ⟨r13, rfl, h⟩ := h
        change Z n0 xX2_takeFromBlock (d + 1) 0 0 39 [(0, .ref (n0 + 8)), (1, .ref (n0 + q2)), (2, .int p1)] [.int r13, .int p1, .ref (n0 + 13)] K I11 L12 (z_q0 K Q)
        obtain ⟨o14, h⟩ := h
        refine z_iast dX2_takeFromBlock_39 (ca_13 hL).2.1 (ca_13 hL).2.2 o14 ?_
        refine z_aload_n 0 dX2_takeFromBlock_40 rfl ?_
        refine fg_2_27 (some 14) rfl dX2_takeFromBlock_41 (co_8 hL).1 (co_8 hL).2 (ca_14 hL).1 ?_
        refine z_iload_n 2 dX2_takeFromBlock_44 rfl ?_
        refine z_aload_n 0 dX2_takeFromBlock_45 rfl ?_
        refine z_aload_n 1 dX2_takeFromBlock_46 rfl ?_
        refine z_iload_n 2 dX2_takeFromBlock_47 rfl ?_
        refine z_iconst 1 dX2_takeFromBlock_48 (by decide) ?_
        refine z_callV0 (As := [.ref (n0 + q2), .int p1, .int 1]) (st := [.int p1, .ref (n0 + 14)]) dX2_takeFromBlock_49 hy_X2_placeOf (co_8 hL).1 (co_8 hL).2 (by decide) wg_874 wg_875 wg_876 (Nat.le_refl _) (Nat.le_of_ble_eq_true rfl) (RM0.mono h ?_)
        clear h
        intro vv I15 L16 h
        obtain ⟨r17, rfl, h⟩ := h
        change Z n0 xX2_takeFromBlock (d + 1) 0 0 52 [(0, .ref (n0 + 8)), (1, .ref (n0 + q2)), (2, .int p1)] [.int r17, .int p1, .ref (n0 + 14)] K I15 L16 (z_q0 K Q)
        refine z_iast dX2_takeFromBlock_52 (ca_14 hL).2.1 (ca_14 hL).2.2 o14 ?_
        refine z_iconst 1 dX2_takeFromBlock_53 (by decide) ?_
        exact z_zretb dX2_takeFromBlock_54 rfl (Or.inr rfl) ⟨rfl, h⟩
      · rw [if_neg g10] at h
        refine z_iconst 0 dX2_takeFromBlock_25 (by decide) ?_
        exact z_zretb dX2_takeFromBlock_26 rfl (Or.inl rfl) ⟨rfl, h⟩
theorem dX2_valueOf_0 : decode cX2_valueOf 0 = .ok (.iconst 0, 1) := by decide +kernel
theorem dX2_valueOf_1 : decode cX2_valueOf 1 = .ok (.istore_n 2, 1) := by decide +kernel
theorem dX2_valueOf_2 : decode cX2_valueOf 2 = .ok (.iconst 0, 1) := by decide +kernel
theorem dX2_valueOf_3 : decode cX2_valueOf 3 = .ok (.istore_n 3, 1) := by decide +kernel
theorem dX2_valueOf_4 : decode cX2_valueOf 4 = .ok (.iload_n 3, 1) := by decide +kernel
theorem dX2_valueOf_5 : decode cX2_valueOf 5 = .ok (.aload_n 1, 1) := by decide +kernel
theorem dX2_valueOf_6 : decode cX2_valueOf 6 = .ok (.arraylength, 1) := by decide +kernel
theorem dX2_valueOf_7 : decode cX2_valueOf 7 = .ok (.if_icmp .ge 175, 3) := by decide +kernel
theorem dX2_valueOf_10 : decode cX2_valueOf 10 = .ok (.aload_n 1, 1) := by decide +kernel
theorem dX2_valueOf_11 : decode cX2_valueOf 11 = .ok (.iload_n 3, 1) := by decide +kernel
theorem dX2_valueOf_12 : decode cX2_valueOf 12 = .ok (.iaload, 1) := by decide +kernel
theorem dX2_valueOf_13 : decode cX2_valueOf 13 = .ok (.sipush 10030, 3) := by decide +kernel
theorem dX2_valueOf_16 : decode cX2_valueOf 16 = .ok (.if_icmp .ge 7, 3) := by decide +kernel
theorem dX2_valueOf_19 : decode cX2_valueOf 19 = .ok (.iconst 0, 1) := by decide +kernel
theorem dX2_valueOf_20 : decode cX2_valueOf 20 = .ok (.goto 17, 3) := by decide +kernel
theorem dX2_valueOf_23 : decode cX2_valueOf 23 = .ok (.aload_n 1, 1) := by decide +kernel
theorem dX2_valueOf_24 : decode cX2_valueOf 24 = .ok (.iload_n 3, 1) := by decide +kernel
theorem dX2_valueOf_25 : decode cX2_valueOf 25 = .ok (.iaload, 1) := by decide +kernel
theorem dX2_valueOf_26 : decode cX2_valueOf 26 = .ok (.sipush 10034, 3) := by decide +kernel
theorem dX2_valueOf_29 : decode cX2_valueOf 29 = .ok (.if_icmp .ne 7, 3) := by decide +kernel
theorem dX2_valueOf_32 : decode cX2_valueOf 32 = .ok (.iconst 1, 1) := by decide +kernel
theorem dX2_valueOf_33 : decode cX2_valueOf 33 = .ok (.goto 4, 3) := by decide +kernel
theorem dX2_valueOf_36 : decode cX2_valueOf 36 = .ok (.iconst 2, 1) := by decide +kernel
theorem dX2_valueOf_37 : decode cX2_valueOf 37 = .ok (.istore 4, 2) := by decide +kernel
theorem dX2_valueOf_39 : decode cX2_valueOf 39 = .ok (.iload_n 2, 1) := by decide +kernel
theorem dX2_valueOf_40 : decode cX2_valueOf 40 = .ok (.iload 4, 2) := by decide +kernel
theorem dX2_valueOf_42 : decode cX2_valueOf 42 = .ok (.if_icmp .lt 9, 3) := by decide +kernel
theorem dX2_valueOf_45 : decode cX2_valueOf 45 = .ok (.iload_n 2, 1) := by decide +kernel
theorem dX2_valueOf_46 : decode cX2_valueOf 46 = .ok (.bipush 60, 2) := by decide +kernel
theorem dX2_valueOf_48 : decode cX2_valueOf 48 = .ok (.if_icmp .lt 7, 3) := by decide +kernel
theorem dX2_valueOf_51 : decode cX2_valueOf 51 = .ok (.ldc2_w 119, 3) := by decide +kernel
theorem dX2_valueOf_54 : decode cX2_valueOf 54 = .ok (.lreturn, 1) := by decide +kernel
theorem dX2_valueOf_55 : decode cX2_valueOf 55 = .ok (.iload 4, 2) := by decide +kernel
theorem dX2_valueOf_57 : decode cX2_valueOf 57 = .ok (.ifCond .ne 15, 3) := by decide +kernel
theorem dX2_valueOf_60 : decode cX2_valueOf 60 = .ok (.aload_n 0, 1) := by decide +kernel
theorem dX2_valueOf_61 : decode cX2_valueOf 61 = .ok (.aload_n 1, 1) := by decide +kernel
theorem dX2_valueOf_62 : decode cX2_valueOf 62 = .ok (.iload_n 3, 1) := by decide +kernel
theorem dX2_valueOf_63 : decode cX2_valueOf 63 = .ok (.iaload, 1) := by decide +kernel
theorem dX2_valueOf_64 : decode cX2_valueOf 64 = .ok (.invokevirtual 129, 3) := by decide +kernel
theorem dX2_valueOf_67 : decode cX2_valueOf 67 = .ok (.lstore 5, 2) := by decide +kernel
theorem dX2_valueOf_69 : decode cX2_valueOf 69 = .ok (.goto 68, 3) := by decide +kernel
theorem dX2_valueOf_72 : decode cX2_valueOf 72 = .ok (.iload 4, 2) := by decide +kernel
theorem dX2_valueOf_74 : decode cX2_valueOf 74 = .ok (.iconst 1, 1) := by decide +kernel
theorem dX2_valueOf_75 : decode cX2_valueOf 75 = .ok (.if_icmp .ne 38, 3) := by decide +kernel
theorem dX2_valueOf_78 : decode cX2_valueOf 78 = .ok (.aload_n 0, 1) := by decide +kernel
theorem dX2_valueOf_79 : decode cX2_valueOf 79 = .ok (.getfield 36, 3) := by decide +kernel
theorem dX2_valueOf_82 : decode cX2_valueOf 82 = .ok (.iload_n 2, 1) := by decide +kernel
theorem dX2_valueOf_83 : decode cX2_valueOf 83 = .ok (.iconst 1, 1) := by decide +kernel
theorem dX2_valueOf_84 : decode cX2_valueOf 84 = .ok (.isub, 1) := by decide +kernel
theorem dX2_valueOf_85 : decode cX2_valueOf 85 = .ok (.laload, 1) := by decide +kernel
theorem dX2_valueOf_86 : decode cX2_valueOf 86 = .ok (.lconst 0, 1) := by decide +kernel
theorem dX2_valueOf_87 : decode cX2_valueOf 87 = .ok (.lcmp, 1) := by decide +kernel
theorem dX2_valueOf_88 : decode cX2_valueOf 88 = .ok (.ifCond .ge 9, 3) := by decide +kernel
theorem dX2_valueOf_91 : decode cX2_valueOf 91 = .ok (.ldc2_w 119, 3) := by decide +kernel
theorem dX2_valueOf_94 : decode cX2_valueOf 94 = .ok (.goto 14, 3) := by decide +kernel
theorem dX2_valueOf_97 : decode cX2_valueOf 97 = .ok (.aload_n 0, 1) := by decide +kernel
theorem dX2_valueOf_98 : decode cX2_valueOf 98 = .ok (.getfield 36, 3) := by decide +kernel
theorem dX2_valueOf_101 : decode cX2_valueOf 101 = .ok (.iload_n 2, 1) := by decide +kernel
theorem dX2_valueOf_102 : decode cX2_valueOf 102 = .ok (.iconst 1, 1) := by decide +kernel
theorem dX2_valueOf_103 : decode cX2_valueOf 103 = .ok (.isub, 1) := by decide +kernel
theorem dX2_valueOf_104 : decode cX2_valueOf 104 = .ok (.laload, 1) := by decide +kernel
theorem dX2_valueOf_105 : decode cX2_valueOf 105 = .ok (.invokestatic 133, 3) := by decide +kernel
theorem dX2_valueOf_108 : decode cX2_valueOf 108 = .ok (.lstore 5, 2) := by decide +kernel
theorem dX2_valueOf_110 : decode cX2_valueOf 110 = .ok (.goto 27, 3) := by decide +kernel
theorem dX2_valueOf_113 : decode cX2_valueOf 113 = .ok (.aload_n 1, 1) := by decide +kernel
theorem dX2_valueOf_114 : decode cX2_valueOf 114 = .ok (.iload_n 3, 1) := by decide +kernel
theorem dX2_valueOf_115 : decode cX2_valueOf 115 = .ok (.iaload, 1) := by decide +kernel
theorem dX2_valueOf_116 : decode cX2_valueOf 116 = .ok (.aload_n 0, 1) := by decide +kernel
theorem dX2_valueOf_117 : decode cX2_valueOf 117 = .ok (.getfield 36, 3) := by decide +kernel
theorem dX2_valueOf_120 : decode cX2_valueOf 120 = .ok (.iload_n 2, 1) := by decide +kernel
theorem dX2_valueOf_121 : decode cX2_valueOf 121 = .ok (.iconst 2, 1) := by decide +kernel
theorem dX2_valueOf_122 : decode cX2_valueOf 122 = .ok (.isub, 1) := by decide +kernel
theorem dX2_valueOf_123 : decode cX2_valueOf 123 = .ok (.laload, 1) := by decide +kernel
theorem dX2_valueOf_124 : decode cX2_valueOf 124 = .ok (.aload_n 0, 1) := by decide +kernel
theorem dX2_valueOf_125 : decode cX2_valueOf 125 = .ok (.getfield 36, 3) := by decide +kernel
theorem dX2_valueOf_128 : decode cX2_valueOf 128 = .ok (.iload_n 2, 1) := by decide +kernel
theorem dX2_valueOf_129 : decode cX2_valueOf 129 = .ok (.iconst 1, 1) := by decide +kernel
theorem dX2_valueOf_130 : decode cX2_valueOf 130 = .ok (.isub, 1) := by decide +kernel
theorem dX2_valueOf_131 : decode cX2_valueOf 131 = .ok (.laload, 1) := by decide +kernel
theorem dX2_valueOf_132 : decode cX2_valueOf 132 = .ok (.invokestatic 137, 3) := by decide +kernel
theorem dX2_valueOf_135 : decode cX2_valueOf 135 = .ok (.lstore 5, 2) := by decide +kernel
theorem dX2_valueOf_137 : decode cX2_valueOf 137 = .ok (.lload 5, 2) := by decide +kernel
theorem dX2_valueOf_139 : decode cX2_valueOf 139 = .ok (.ldc2_w 141, 3) := by decide +kernel
theorem dX2_valueOf_142 : decode cX2_valueOf 142 = .ok (.lcmp, 1) := by decide +kernel
theorem dX2_valueOf_143 : decode cX2_valueOf 143 = .ok (.ifCond .lt 12, 3) := by decide +kernel
theorem dX2_valueOf_146 : decode cX2_valueOf 146 = .ok (.lload 5, 2) := by decide +kernel
theorem dX2_valueOf_148 : decode cX2_valueOf 148 = .ok (.ldc2_w 143, 3) := by decide +kernel
theorem dX2_valueOf_151 : decode cX2_valueOf 151 = .ok (.lcmp, 1) := by decide +kernel
theorem dX2_valueOf_152 : decode cX2_valueOf 152 = .ok (.ifCond .le 7, 3) := by decide +kernel
theorem dX2_valueOf_155 : decode cX2_valueOf 155 = .ok (.ldc2_w 119, 3) := by decide +kernel
theorem dX2_valueOf_158 : decode cX2_valueOf 158 = .ok (.lreturn, 1) := by decide +kernel
theorem dX2_valueOf_159 : decode cX2_valueOf 159 = .ok (.iload_n 2, 1) := by decide +kernel
theorem dX2_valueOf_160 : decode cX2_valueOf 160 = .ok (.iconst 1, 1) := by decide +kernel
theorem dX2_valueOf_161 : decode cX2_valueOf 161 = .ok (.iload 4, 2) := by decide +kernel
theorem dX2_valueOf_163 : decode cX2_valueOf 163 = .ok (.isub, 1) := by decide +kernel
theorem dX2_valueOf_164 : decode cX2_valueOf 164 = .ok (.iadd, 1) := by decide +kernel
theorem dX2_valueOf_165 : decode cX2_valueOf 165 = .ok (.istore_n 2, 1) := by decide +kernel
theorem dX2_valueOf_166 : decode cX2_valueOf 166 = .ok (.aload_n 0, 1) := by decide +kernel
theorem dX2_valueOf_167 : decode cX2_valueOf 167 = .ok (.getfield 36, 3) := by decide +kernel
theorem dX2_valueOf_170 : decode cX2_valueOf 170 = .ok (.iload_n 2, 1) := by decide +kernel
theorem dX2_valueOf_171 : decode cX2_valueOf 171 = .ok (.iconst 1, 1) := by decide +kernel
theorem dX2_valueOf_172 : decode cX2_valueOf 172 = .ok (.isub, 1) := by decide +kernel
theorem dX2_valueOf_173 : decode cX2_valueOf 173 = .ok (.lload 5, 2) := by decide +kernel
theorem dX2_valueOf_175 : decode cX2_valueOf 175 = .ok (.lastore, 1) := by decide +kernel
theorem dX2_valueOf_176 : decode cX2_valueOf 176 = .ok (.iinc 3 1, 3) := by decide +kernel
theorem dX2_valueOf_179 : decode cX2_valueOf 179 = .ok (.goto (-175), 3) := by decide +kernel
theorem dX2_valueOf_182 : decode cX2_valueOf 182 = .ok (.iload_n 2, 1) := by decide +kernel
theorem dX2_valueOf_183 : decode cX2_valueOf 183 = .ok (.iconst 1, 1) := by decide +kernel
theorem dX2_valueOf_184 : decode cX2_valueOf 184 = .ok (.if_icmp .ne 12, 3) := by decide +kernel
theorem dX2_valueOf_187 : decode cX2_valueOf 187 = .ok (.aload_n 0, 1) := by decide +kernel
theorem dX2_valueOf_188 : decode cX2_valueOf 188 = .ok (.getfield 36, 3) := by decide +kernel
theorem dX2_valueOf_191 : decode cX2_valueOf 191 = .ok (.iconst 0, 1) := by decide +kernel
theorem dX2_valueOf_192 : decode cX2_valueOf 192 = .ok (.laload, 1) := by decide +kernel
theorem dX2_valueOf_193 : decode cX2_valueOf 193 = .ok (.goto 6, 3) := by decide +kernel
theorem dX2_valueOf_196 : decode cX2_valueOf 196 = .ok (.ldc2_w 119, 3) := by decide +kernel
theorem dX2_valueOf_199 : decode cX2_valueOf 199 = .ok (.lreturn, 1) := by decide +kernel
set_option maxRecDepth 100000 in
set_option maxHeartbeats 4000000 in
theorem wp_X2_valueOf {n0 d : Nat} {K : z_K} {I : z_I} {L : z_L} {Q : z_q} {p0 : Nat} (hL : CLay K) (h : Z n0 xX2_valueOf (d + 1) 0 0 4 [(0, .ref (n0 + 8)), (1, .ref (n0 + p0)), (2, .int 0), (3, .int 0)] [] K I L (z_q0 K Q)) : RM0 n0 xX2_valueOf (d + 1) [.ref (n0 + 8), .ref (n0 + p0)] K I L Q := by
  refine z_entry0 (by decide) (Nat.le_of_ble_eq_true rfl) ?_
  change Z n0 xX2_valueOf (d + 1) 0 0 0 [(0, .ref (n0 + 8)), (1, .ref (n0 + p0))] [] K I L (z_q0 K Q)
  refine z_iconst 0 dX2_valueOf_0 (by decide) ?_
  refine z_istore_n [1, 2, 0] [(0, .ref (n0 + 8)), (1, .ref (n0 + p0)), (2, .int 0)] dX2_valueOf_1 (by decide) rfl ?_
  refine z_iconst 0 dX2_valueOf_2 (by decide) ?_
  refine z_istore_n [1, 2, 3, 0] [(0, .ref (n0 + 8)), (1, .ref (n0 + p0)), (2, .int 0), (3, .int 0)] dX2_valueOf_3 (by decide) rfl ?_
  exact h
set_option maxRecDepth 100000 in
set_option maxHeartbeats 4000000 in
theorem wp_X2_valueOf_4 {n0 d : Nat} {rc rs : Nat} {K : z_K} {I : z_I} {L : z_L} {Q : z_q} {a1 : Nat} {a2 : Int32} {a3 : Int32} (hL : CLay K) (h : ∃ n1, a1 < K.1 ∧ K.2.1 a1 = (20, n1) ∧ (if a3 < (Int32.ofNat n1) then vp_in a3 n1 ∧ (if a2 < (if ((I a1 a3.toNatClampNeg) : Int32) < 10030 then 0 else if ((I a1 a3.toNatClampNeg) : Int32) = 10034 then 1 else 2) then Q (some (.long (-1152921504606846976))) I L else (if a2 < 60 then (if ((if ((I a1 a3.toNatClampNeg) : Int32) < 10030 then 0 else if ((I a1 a3.toNatClampNeg) : Int32) = 10034 then 1 else 2) : Int32) = 0 then RM0 n0 xX2_unitOf d [.ref (n0 + 8), .int (I a1 a3.toNatClampNeg)] K I L (fun vv I31 L32 => ∃ r33 : Int64, vv = some (.long r33) ∧ (if r33 < (-1000000) then Q (some (.long (-1152921504606846976))) I31 L32 else (if 1000000 < r33 then Q (some (.long (-1152921504606846976))) I31 L32 else vp_in ((a2 + (1 - (if ((I a1 a3.toNatClampNeg) : Int32) < 10030 then 0 else if ((I a1 a3.toNatClampNeg) : Int32) = 10034 then 1 else 2))) - 1) 60 ∧ Z n0 xX2_valueOf (d + 1) rc rs 4 [(0, .ref (n0 + 8)), (1, .ref (n0 + a1)), (2, .int (a2 + (1 - (if ((I a1 a3.toNatClampNeg) : Int32) < 10030 then 0 else if ((I a1 a3.toNatClampNeg) : Int32) = 10034 then 1 else 2)))), (3, .int (a3 + 1))] [] K I31 (zL L32 16 (((a2 + (1 - (if ((I a1 a3.toNatClampNeg) : Int32) < 10030 then 0 else if ((I a1 a3.toNatClampNeg) : Int32) = 10034 then 1 else 2))) - 1).toNatClampNeg) r33) (z_q0 K Q)))) else (if ((if ((I a1 a3.toNatClampNeg) : Int32) < 10030 then 0 else if ((I a1 a3.toNatClampNeg) : Int32) = 10034 then 1 else 2) : Int32) = 1 then vp_in (a2 - 1) 60 ∧ (if ((L 16 ((a2 - 1).toNatClampNeg)) : Int64) < 0 then Q (some (.long (-1152921504606846976))) I L else RM0 n0 xX12_rootOf d [.long (L 16 ((a2 - 1).toNatClampNeg))] K I L (fun vv I25 L26 => ∃ r27 : Int64, vv = some (.long r27) ∧ (if r27 < (-1000000) then Q (some (.long (-1152921504606846976))) I25 L26 else (if 1000000 < r27 then Q (some (.long (-1152921504606846976))) I25 L26 else vp_in ((a2 + (1 - (if ((I a1 a3.toNatClampNeg) : Int32) < 10030 then 0 else if ((I a1 a3.toNatClampNeg) : Int32) = 10034 then 1 else 2))) - 1) 60 ∧ Z n0 xX2_valueOf (d + 1) rc rs 4 [(0, .ref (n0 + 8)), (1, .ref (n0 + a1)), (2, .int (a2 + (1 - (if ((I a1 a3.toNatClampNeg) : Int32) < 10030 then 0 else if ((I a1 a3.toNatClampNeg) : Int32) = 10034 then 1 else 2)))), (3, .int (a3 + 1))] [] K I25 (zL L26 16 (((a2 + (1 - (if ((I a1 a3.toNatClampNeg) : Int32) < 10030 then 0 else if ((I a1 a3.toNatClampNeg) : Int32) = 10034 then 1 else 2))) - 1).toNatClampNeg) r27) (z_q0 K Q))))) else vp_in (a2 - 2) 60 ∧ vp_in (a2 - 1) 60 ∧ RM0 n0 xX2_combine d [.int (I a1 a3.toNatClampNeg), .long (L 16 ((a2 - 2).toNatClampNeg)), .long (L 16 ((a2 - 1).toNatClampNeg))] K I L (fun vv I17 L18 => ∃ r19 : Int64, vv = some (.long r19) ∧ (if r19 < (-1000000) then Q (some (.long (-1152921504606846976))) I17 L18 else (if 1000000 < r19 then Q (some (.long (-1152921504606846976))) I17 L18 else vp_in ((a2 + (1 - (if ((I a1 a3.toNatClampNeg) : Int32) < 10030 then 0 else if ((I a1 a3.toNatClampNeg) : Int32) = 10034 then 1 else 2))) - 1) 60 ∧ Z n0 xX2_valueOf (d + 1) rc rs 4 [(0, .ref (n0 + 8)), (1, .ref (n0 + a1)), (2, .int (a2 + (1 - (if ((I a1 a3.toNatClampNeg) : Int32) < 10030 then 0 else if ((I a1 a3.toNatClampNeg) : Int32) = 10034 then 1 else 2)))), (3, .int (a3 + 1))] [] K I17 (zL L18 16 (((a2 + (1 - (if ((I a1 a3.toNatClampNeg) : Int32) < 10030 then 0 else if ((I a1 a3.toNatClampNeg) : Int32) = 10034 then 1 else 2))) - 1).toNatClampNeg) r19) (z_q0 K Q)))))) else Q (some (.long (-1152921504606846976))) I L)) else Q (some (.long (if a2 = 1 then (L 16 0) else (-1152921504606846976)))) I L)) : Z n0 xX2_valueOf (d + 1) rc rs 4 [(0, .ref (n0 + 8)), (1, .ref (n0 + a1)), (2, .int a2), (3, .int a3)] [] K I L (z_q0 K Q) := by
  refine z_iload_n 3 dX2_valueOf_4 rfl ?_
  refine z_aload_n 1 dX2_valueOf_5 rfl ?_
  obtain ⟨n1, o2, o3, h⟩ := h
  refine z_alen (t := 0) (Int32.ofNat n1) dX2_valueOf_6 o2 o3 rfl ?_
  refine z_icmp_ge 182 dX2_valueOf_7 (by decide) (fun g4 => ?_) (fun g4 => ?_)
  · rw [if_neg g4] at h
    refine z_iload_n 2 dX2_valueOf_182 rfl ?_
    refine z_iconst 1 dX2_valueOf_183 (by decide) ?_
    have key6 : Z n0 xX2_valueOf (d + 1) rc rs 199 [] [.long (if a2 = 1 then (L 16 0) else (-1152921504606846976))] K I L (z_q0 K Q) := by
      exact z_lret dX2_valueOf_199 rfl ⟨rfl, h⟩
    refine z_icmp_ne 196 dX2_valueOf_184 (by decide) (fun g5 => ?_) (fun g5 => ?_)
    · refine z_ldc2_w (-1152921504606846976) dX2_valueOf_196 wg_855 ?_
      have ee : ((if a2 = 1 then (L 16 0) else (-1152921504606846976)) : Int64) = (-1152921504606846976) := by rw [if_neg g5]
      rw [ee] at key6
      clear ee
      refine z_sub [] rfl ?_
      exact key6
    · refine z_aload_n 0 dX2_valueOf_187 rfl ?_
      refine fg_2_36 (some 16) rfl dX2_valueOf_188 (co_8 hL).1 (co_8 hL).2 (ca_16 hL).1 ?_
      refine z_iconst 0 dX2_valueOf_191 (by decide) ?_
      refine z_lald (L 16 0) dX2_valueOf_192 (ca_16 hL).2.1 (ca_16 hL).2.2 (by unfold vp_in; decide) rfl ?_
      refine z_goto 199 dX2_valueOf_193 (by decide) ?_
      have ee : ((if a2 = 1 then (L 16 0) else (-1152921504606846976)) : Int64) = (L 16 0) := by rw [if_pos g5]
      rw [ee] at key6
      clear ee
      refine z_sub [] rfl ?_
      exact key6
  · rw [if_pos g4] at h
    refine z_aload_n 1 dX2_valueOf_10 rfl ?_
    refine z_iload_n 3 dX2_valueOf_11 rfl ?_
    obtain ⟨o7, h⟩ := h
    refine z_iald (I a1 a3.toNatClampNeg) dX2_valueOf_12 o2 o3 o7 rfl ?_
    refine z_sipush 10030 dX2_valueOf_13 (by decide) ?_
    have key10 : Z n0 xX2_valueOf (d + 1) rc rs 37 [(0, .ref (n0 + 8)), (1, .ref (n0 + a1)), (2, .int a2), (3, .int a3)] [.int (if ((I a1 a3.toNatClampNeg) : Int32) < 10030 then 0 else if ((I a1 a3.toNatClampNeg) : Int32) = 10034 then 1 else 2)] K I L (z_q0 K Q) := by
      refine z_istore [1, 2, 3, 4, 0] [(0, .ref (n0 + 8)), (1, .ref (n0 + a1)), (2, .int a2), (3, .int a3), (4, .int (if ((I a1 a3.toNatClampNeg) : Int32) < 10030 then 0 else if ((I a1 a3.toNatClampNeg) : Int32) = 10034 then 1 else 2))] dX2_valueOf_37 (by decide) rfl ?_
      refine z_iload_n 2 dX2_valueOf_39 rfl ?_
      refine z_iload 4 dX2_valueOf_40 rfl ?_
      refine z_icmp_lt 51 dX2_valueOf_42 (by decide) (fun g11 => ?_) (fun g11 => ?_)
      · rw [if_pos g11] at h
        refine z_ldc2_w (-1152921504606846976) dX2_valueOf_51 wg_855 ?_
        exact z_lret dX2_valueOf_54 rfl ⟨rfl, h⟩
      · rw [if_neg g11] at h
        refine z_iload_n 2 dX2_valueOf_45 rfl ?_
        refine z_bipush 60 dX2_valueOf_46 (by decide) ?_
        refine z_icmp_lt 55 dX2_valueOf_48 (by decide) (fun g12 => ?_) (fun g12 => ?_)
        · rw [if_pos g12] at h
          refine z_iload 4 dX2_valueOf_55 rfl ?_
          refine z_if_ne 72 dX2_valueOf_57 (by decide) (fun g13 => ?_) (fun g13 => ?_)
          · rw [if_neg g13] at h
            refine z_iload 4 dX2_valueOf_72 rfl ?_
            refine z_iconst 1 dX2_valueOf_74 (by decide) ?_
            refine z_icmp_ne 113 dX2_valueOf_75 (by decide) (fun g14 => ?_) (fun g14 => ?_)
            · rw [if_neg g14] at h
              refine z_aload_n 1 dX2_valueOf_113 rfl ?_
              refine z_iload_n 3 dX2_valueOf_114 rfl ?_
              refine z_iald (I a1 a3.toNatClampNeg) dX2_valueOf_115 o2 o3 o7 rfl ?_
              refine z_aload_n 0 dX2_valueOf_116 rfl ?_
              refine fg_2_36 (some 16) rfl dX2_valueOf_117 (co_8 hL).1 (co_8 hL).2 (ca_16 hL).1 ?_
              refine z_iload_n 2 dX2_valueOf_120 rfl ?_
              refine z_iconst 2 dX2_valueOf_121 (by decide) ?_
              refine z_isub dX2_valueOf_122 ?_
              obtain ⟨o15, h⟩ := h
              refine z_lald (L 16 ((a2 - 2).toNatClampNeg)) dX2_valueOf_123 (ca_16 hL).2.1 (ca_16 hL).2.2 o15 rfl ?_
              refine z_aload_n 0 dX2_valueOf_124 rfl ?_
              refine fg_2_36 (some 16) rfl dX2_valueOf_125 (co_8 hL).1 (co_8 hL).2 (ca_16 hL).1 ?_
              refine z_iload_n 2 dX2_valueOf_128 rfl ?_
              refine z_iconst 1 dX2_valueOf_129 (by decide) ?_
              refine z_isub dX2_valueOf_130 ?_
              obtain ⟨o16, h⟩ := h
              refine z_lald (L 16 ((a2 - 1).toNatClampNeg)) dX2_valueOf_131 (ca_16 hL).2.1 (ca_16 hL).2.2 o16 rfl ?_
              refine z_callS0 (As := [.int (I a1 a3.toNatClampNeg), .long (L 16 ((a2 - 2).toNatClampNeg)), .long (L 16 ((a2 - 1).toNatClampNeg))]) (st := []) dX2_valueOf_132 hy_X2_combine wg_864 wg_865 (Nat.le_refl _) (Nat.le_of_ble_eq_true rfl) (RM0.mono h ?_)
              clear h
              intro vv I17 L18 h
              obtain ⟨r19, rfl, h⟩ := h
              change Z n0 xX2_valueOf (d + 1) rc rs 135 [(0, .ref (n0 + 8)), (1, .ref (n0 + a1)), (2, .int a2), (3, .int a3), (4, .int (if ((I a1 a3.toNatClampNeg) : Int32) < 10030 then 0 else if ((I a1 a3.toNatClampNeg) : Int32) = 10034 then 1 else 2))] [.long r19] K I17 L18 (z_q0 K Q)
              refine z_lstore [1, 2, 3, 4, 5, 0] [(0, .ref (n0 + 8)), (1, .ref (n0 + a1)), (2, .int a2), (3, .int a3), (4, .int (if ((I a1 a3.toNatClampNeg) : Int32) < 10030 then 0 else if ((I a1 a3.toNatClampNeg) : Int32) = 10034 then 1 else 2)), (5, .long r19)] dX2_valueOf_135 (by decide) rfl ?_
              refine z_lload 5 dX2_valueOf_137 rfl ?_
              refine z_ldc2_w (-1000000) dX2_valueOf_139 wg_867 ?_
              refine z_lif_lt 155 dX2_valueOf_142 dX2_valueOf_143 (by decide) (fun g20 => ?_) (fun g20 => ?_)
              · rw [if_pos g20] at h
                refine z_ldc2_w (-1152921504606846976) dX2_valueOf_155 wg_855 ?_
                exact z_lret dX2_valueOf_158 rfl ⟨rfl, h⟩
              · rw [if_neg g20] at h
                refine z_lload 5 dX2_valueOf_146 rfl ?_
                refine z_ldc2_w 1000000 dX2_valueOf_148 wg_868 ?_
                refine z_lif_le 159 dX2_valueOf_151 dX2_valueOf_152 (by decide) (fun g21 => ?_) (fun g21 => ?_)
                · rw [if_neg g21] at h
                  refine z_iload_n 2 dX2_valueOf_159 rfl ?_
                  refine z_iconst 1 dX2_valueOf_160 (by decide) ?_
                  refine z_iload 4 dX2_valueOf_161 rfl ?_
                  refine z_isub dX2_valueOf_163 ?_
                  refine z_iadd dX2_valueOf_164 ?_
                  refine z_istore_n [1, 2, 0, 3, 4, 5] [(0, .ref (n0 + 8)), (1, .ref (n0 + a1)), (2, .int (a2 + (1 - (if ((I a1 a3.toNatClampNeg) : Int32) < 10030 then 0 else if ((I a1 a3.toNatClampNeg) : Int32) = 10034 then 1 else 2)))), (3, .int a3), (4, .int (if ((I a1 a3.toNatClampNeg) : Int32) < 10030 then 0 else if ((I a1 a3.toNatClampNeg) : Int32) = 10034 then 1 else 2)), (5, .long r19)] dX2_valueOf_165 (by decide) rfl ?_
                  refine z_aload_n 0 dX2_valueOf_166 rfl ?_
                  refine fg_2_36 (some 16) rfl dX2_valueOf_167 (co_8 hL).1 (co_8 hL).2 (ca_16 hL).1 ?_
                  refine z_iload_n 2 dX2_valueOf_170 rfl ?_
                  refine z_iconst 1 dX2_valueOf_171 (by decide) ?_
                  refine z_isub dX2_valueOf_172 ?_
                  refine z_lload 5 dX2_valueOf_173 rfl ?_
                  obtain ⟨o22, h⟩ := h
                  refine z_last dX2_valueOf_175 (ca_16 hL).2.1 (ca_16 hL).2.2 o22 ?_
                  refine z_iinc (j := 3) (a3 + 1) [1, 2, 3, 0, 4, 5] [(0, .ref (n0 + 8)), (1, .ref (n0 + a1)), (2, .int (a2 + (1 - (if ((I a1 a3.toNatClampNeg) : Int32) < 10030 then 0 else if ((I a1 a3.toNatClampNeg) : Int32) = 10034 then 1 else 2)))), (3, .int (a3 + 1)), (4, .int (if ((I a1 a3.toNatClampNeg) : Int32) < 10030 then 0 else if ((I a1 a3.toNatClampNeg) : Int32) = 10034 then 1 else 2)), (5, .long r19)] dX2_valueOf_176 rfl rfl (by decide) rfl ?_
                  refine z_goto 4 dX2_valueOf_179 (by decide) ?_
                  refine z_sub [0, 1, 2, 3] rfl ?_
                  exact h
                · rw [if_pos g21] at h
                  refine z_ldc2_w (-1152921504606846976) dX2_valueOf_155 wg_855 ?_
                  exact z_lret dX2_valueOf_158 rfl ⟨rfl, h⟩
            · rw [if_pos g14] at h
              refine z_aload_n 0 dX2_valueOf_78 rfl ?_
              refine fg_2_36 (some 16) rfl dX2_valueOf_79 (co_8 hL).1 (co_8 hL).2 (ca_16 hL).1 ?_
              refine z_iload_n 2 dX2_valueOf_82 rfl ?_
              refine z_iconst 1 dX2_valueOf_83 (by decide) ?_
              refine z_isub dX2_valueOf_84 ?_
              obtain ⟨o23, h⟩ := h
              refine z_lald (L 16 ((a2 - 1).toNatClampNeg)) dX2_valueOf_85 (ca_16 hL).2.1 (ca_16 hL).2.2 o23 rfl ?_
              refine z_lconst 0 dX2_valueOf_86 (by decide) ?_
              refine z_lif_ge 97 dX2_valueOf_87 dX2_valueOf_88 (by decide) (fun g24 => ?_) (fun g24 => ?_)
              · rw [if_neg g24] at h
                refine z_aload_n 0 dX2_valueOf_97 rfl ?_
                refine fg_2_36 (some 16) rfl dX2_valueOf_98 (co_8 hL).1 (co_8 hL).2 (ca_16 hL).1 ?_
                refine z_iload_n 2 dX2_valueOf_101 rfl ?_
                refine z_iconst 1 dX2_valueOf_102 (by decide) ?_
                refine z_isub dX2_valueOf_103 ?_
                refine z_lald (L 16 ((a2 - 1).toNatClampNeg)) dX2_valueOf_104 (ca_16 hL).2.1 (ca_16 hL).2.2 o23 rfl ?_
                refine z_callSN0 (As := [.long (L 16 ((a2 - 1).toNatClampNeg))]) (st := []) dX2_valueOf_105 hy_X12_rootOf wn_860 wg_861 (Nat.le_refl _) (Nat.le_of_ble_eq_true rfl) (RM0.mono h ?_)
                clear h
                intro vv I25 L26 h
                obtain ⟨r27, rfl, h⟩ := h
                change Z n0 xX2_valueOf (d + 1) rc rs 108 [(0, .ref (n0 + 8)), (1, .ref (n0 + a1)), (2, .int a2), (3, .int a3), (4, .int (if ((I a1 a3.toNatClampNeg) : Int32) < 10030 then 0 else if ((I a1 a3.toNatClampNeg) : Int32) = 10034 then 1 else 2))] [.long r27] K I25 L26 (z_q0 K Q)
                refine z_lstore [1, 2, 3, 4, 5, 0] [(0, .ref (n0 + 8)), (1, .ref (n0 + a1)), (2, .int a2), (3, .int a3), (4, .int (if ((I a1 a3.toNatClampNeg) : Int32) < 10030 then 0 else if ((I a1 a3.toNatClampNeg) : Int32) = 10034 then 1 else 2)), (5, .long r27)] dX2_valueOf_108 (by decide) rfl ?_
                refine z_goto 137 dX2_valueOf_110 (by decide) ?_
                refine z_lload 5 dX2_valueOf_137 rfl ?_
                refine z_ldc2_w (-1000000) dX2_valueOf_139 wg_867 ?_
                refine z_lif_lt 155 dX2_valueOf_142 dX2_valueOf_143 (by decide) (fun g28 => ?_) (fun g28 => ?_)
                · rw [if_pos g28] at h
                  refine z_ldc2_w (-1152921504606846976) dX2_valueOf_155 wg_855 ?_
                  exact z_lret dX2_valueOf_158 rfl ⟨rfl, h⟩
                · rw [if_neg g28] at h
                  refine z_lload 5 dX2_valueOf_146 rfl ?_
                  refine z_ldc2_w 1000000 dX2_valueOf_148 wg_868 ?_
                  refine z_lif_le 159 dX2_valueOf_151 dX2_valueOf_152 (by decide) (fun g29 => ?_) (fun g29 => ?_)
                  · rw [if_neg g29] at h
                    refine z_iload_n 2 dX2_valueOf_159 rfl ?_
                    refine z_iconst 1 dX2_valueOf_160 (by decide) ?_
                    refine z_iload 4 dX2_valueOf_161 rfl ?_
                    refine z_isub dX2_valueOf_163 ?_
                    refine z_iadd dX2_valueOf_164 ?_
                    refine z_istore_n [1, 2, 0, 3, 4, 5] [(0, .ref (n0 + 8)), (1, .ref (n0 + a1)), (2, .int (a2 + (1 - (if ((I a1 a3.toNatClampNeg) : Int32) < 10030 then 0 else if ((I a1 a3.toNatClampNeg) : Int32) = 10034 then 1 else 2)))), (3, .int a3), (4, .int (if ((I a1 a3.toNatClampNeg) : Int32) < 10030 then 0 else if ((I a1 a3.toNatClampNeg) : Int32) = 10034 then 1 else 2)), (5, .long r27)] dX2_valueOf_165 (by decide) rfl ?_
                    refine z_aload_n 0 dX2_valueOf_166 rfl ?_
                    refine fg_2_36 (some 16) rfl dX2_valueOf_167 (co_8 hL).1 (co_8 hL).2 (ca_16 hL).1 ?_
                    refine z_iload_n 2 dX2_valueOf_170 rfl ?_
                    refine z_iconst 1 dX2_valueOf_171 (by decide) ?_
                    refine z_isub dX2_valueOf_172 ?_
                    refine z_lload 5 dX2_valueOf_173 rfl ?_
                    obtain ⟨o30, h⟩ := h
                    refine z_last dX2_valueOf_175 (ca_16 hL).2.1 (ca_16 hL).2.2 o30 ?_
                    refine z_iinc (j := 3) (a3 + 1) [1, 2, 3, 0, 4, 5] [(0, .ref (n0 + 8)), (1, .ref (n0 + a1)), (2, .int (a2 + (1 - (if ((I a1 a3.toNatClampNeg) : Int32) < 10030 then 0 else if ((I a1 a3.toNatClampNeg) : Int32) = 10034 then 1 else 2)))), (3, .int (a3 + 1)), (4, .int (if ((I a1 a3.toNatClampNeg) : Int32) < 10030 then 0 else if ((I a1 a3.toNatClampNeg) : Int32) = 10034 then 1 else 2)), (5, .long r27)] dX2_valueOf_176 rfl rfl (by decide) rfl ?_
                    refine z_goto 4 dX2_valueOf_179 (by decide) ?_
                    refine z_sub [0, 1, 2, 3] rfl ?_
                    exact h
                  · rw [if_pos g29] at h
                    refine z_ldc2_w (-1152921504606846976) dX2_valueOf_155 wg_855 ?_
                    exact z_lret dX2_valueOf_158 rfl ⟨rfl, h⟩
              · rw [if_pos g24] at h
                refine z_ldc2_w (-1152921504606846976) dX2_valueOf_91 wg_855 ?_
                refine z_goto 108 dX2_valueOf_94 (by decide) ?_
                refine z_lstore [1, 2, 3, 4, 5, 0] [(0, .ref (n0 + 8)), (1, .ref (n0 + a1)), (2, .int a2), (3, .int a3), (4, .int (if ((I a1 a3.toNatClampNeg) : Int32) < 10030 then 0 else if ((I a1 a3.toNatClampNeg) : Int32) = 10034 then 1 else 2)), (5, .long (-1152921504606846976))] dX2_valueOf_108 (by decide) rfl ?_
                refine z_goto 137 dX2_valueOf_110 (by decide) ?_
                refine z_lload 5 dX2_valueOf_137 rfl ?_
                refine z_ldc2_w (-1000000) dX2_valueOf_139 wg_867 ?_
                refine z_lif_lt 155 dX2_valueOf_142 dX2_valueOf_143 (by decide) (fun _ => ?_) (fun q => absurd q (by decide))
                refine z_ldc2_w (-1152921504606846976) dX2_valueOf_155 wg_855 ?_
                exact z_lret dX2_valueOf_158 rfl ⟨rfl, h⟩
          · rw [if_pos g13] at h
            refine z_aload_n 0 dX2_valueOf_60 rfl ?_
            refine z_aload_n 1 dX2_valueOf_61 rfl ?_
            refine z_iload_n 3 dX2_valueOf_62 rfl ?_
            refine z_iald (I a1 a3.toNatClampNeg) dX2_valueOf_63 o2 o3 o7 rfl ?_
            refine z_callV0 (As := [.int (I a1 a3.toNatClampNeg)]) (st := []) dX2_valueOf_64 hy_X2_unitOf (co_8 hL).1 (co_8 hL).2 (by decide) wg_856 wg_858 wg_23 (Nat.le_refl _) (Nat.le_of_ble_eq_true rfl) (RM0.mono h ?_)
            clear h
            intro vv I31 L32 h
            obtain ⟨r33, rfl, h⟩ := h
            change Z n0 xX2_valueOf (d + 1) rc rs 67 [(0, .ref (n0 + 8)), (1, .ref (n0 + a1)), (2, .int a2), (3, .int a3), (4, .int (if ((I a1 a3.toNatClampNeg) : Int32) < 10030 then 0 else if ((I a1 a3.toNatClampNeg) : Int32) = 10034 then 1 else 2))] [.long r33] K I31 L32 (z_q0 K Q)
            refine z_lstore [1, 2, 3, 4, 5, 0] [(0, .ref (n0 + 8)), (1, .ref (n0 + a1)), (2, .int a2), (3, .int a3), (4, .int (if ((I a1 a3.toNatClampNeg) : Int32) < 10030 then 0 else if ((I a1 a3.toNatClampNeg) : Int32) = 10034 then 1 else 2)), (5, .long r33)] dX2_valueOf_67 (by decide) rfl ?_
            refine z_goto 137 dX2_valueOf_69 (by decide) ?_
            refine z_lload 5 dX2_valueOf_137 rfl ?_
            refine z_ldc2_w (-1000000) dX2_valueOf_139 wg_867 ?_
            refine z_lif_lt 155 dX2_valueOf_142 dX2_valueOf_143 (by decide) (fun g34 => ?_) (fun g34 => ?_)
            · rw [if_pos g34] at h
              refine z_ldc2_w (-1152921504606846976) dX2_valueOf_155 wg_855 ?_
              exact z_lret dX2_valueOf_158 rfl ⟨rfl, h⟩
            · rw [if_neg g34] at h
              refine z_lload 5 dX2_valueOf_146 rfl ?_
              refine z_ldc2_w 1000000 dX2_valueOf_148 wg_868 ?_
              refine z_lif_le 159 dX2_valueOf_151 dX2_valueOf_152 (by decide) (fun g35 => ?_) (fun g35 => ?_)
              · rw [if_neg g35] at h
                refine z_iload_n 2 dX2_valueOf_159 rfl ?_
                refine z_iconst 1 dX2_valueOf_160 (by decide) ?_
                refine z_iload 4 dX2_valueOf_161 rfl ?_
                refine z_isub dX2_valueOf_163 ?_
                refine z_iadd dX2_valueOf_164 ?_
                refine z_istore_n [1, 2, 0, 3, 4, 5] [(0, .ref (n0 + 8)), (1, .ref (n0 + a1)), (2, .int (a2 + (1 - (if ((I a1 a3.toNatClampNeg) : Int32) < 10030 then 0 else if ((I a1 a3.toNatClampNeg) : Int32) = 10034 then 1 else 2)))), (3, .int a3), (4, .int (if ((I a1 a3.toNatClampNeg) : Int32) < 10030 then 0 else if ((I a1 a3.toNatClampNeg) : Int32) = 10034 then 1 else 2)), (5, .long r33)] dX2_valueOf_165 (by decide) rfl ?_
                refine z_aload_n 0 dX2_valueOf_166 rfl ?_
                refine fg_2_36 (some 16) rfl dX2_valueOf_167 (co_8 hL).1 (co_8 hL).2 (ca_16 hL).1 ?_
                refine z_iload_n 2 dX2_valueOf_170 rfl ?_
                refine z_iconst 1 dX2_valueOf_171 (by decide) ?_
                refine z_isub dX2_valueOf_172 ?_
                refine z_lload 5 dX2_valueOf_173 rfl ?_
                obtain ⟨o36, h⟩ := h
                refine z_last dX2_valueOf_175 (ca_16 hL).2.1 (ca_16 hL).2.2 o36 ?_
                refine z_iinc (j := 3) (a3 + 1) [1, 2, 3, 0, 4, 5] [(0, .ref (n0 + 8)), (1, .ref (n0 + a1)), (2, .int (a2 + (1 - (if ((I a1 a3.toNatClampNeg) : Int32) < 10030 then 0 else if ((I a1 a3.toNatClampNeg) : Int32) = 10034 then 1 else 2)))), (3, .int (a3 + 1)), (4, .int (if ((I a1 a3.toNatClampNeg) : Int32) < 10030 then 0 else if ((I a1 a3.toNatClampNeg) : Int32) = 10034 then 1 else 2)), (5, .long r33)] dX2_valueOf_176 rfl rfl (by decide) rfl ?_
                refine z_goto 4 dX2_valueOf_179 (by decide) ?_
                refine z_sub [0, 1, 2, 3] rfl ?_
                exact h
              · rw [if_pos g35] at h
                refine z_ldc2_w (-1152921504606846976) dX2_valueOf_155 wg_855 ?_
                exact z_lret dX2_valueOf_158 rfl ⟨rfl, h⟩
        · rw [if_neg g12] at h
          refine z_ldc2_w (-1152921504606846976) dX2_valueOf_51 wg_855 ?_
          exact z_lret dX2_valueOf_54 rfl ⟨rfl, h⟩
    refine z_icmp_ge 23 dX2_valueOf_16 (by decide) (fun g8 => ?_) (fun g8 => ?_)
    · refine z_aload_n 1 dX2_valueOf_23 rfl ?_
      refine z_iload_n 3 dX2_valueOf_24 rfl ?_
      refine z_iald (I a1 a3.toNatClampNeg) dX2_valueOf_25 o2 o3 o7 rfl ?_
      refine z_sipush 10034 dX2_valueOf_26 (by decide) ?_
      refine z_icmp_ne 36 dX2_valueOf_29 (by decide) (fun g9 => ?_) (fun g9 => ?_)
      · refine z_iconst 2 dX2_valueOf_36 (by decide) ?_
        have ee : ((if ((I a1 a3.toNatClampNeg) : Int32) < 10030 then 0 else if ((I a1 a3.toNatClampNeg) : Int32) = 10034 then 1 else 2) : Int32) = 2 := by rw [if_neg g8, if_neg g9]
        rw [ee] at key10
        clear ee
        exact key10
      · refine z_iconst 1 dX2_valueOf_32 (by decide) ?_
        refine z_goto 37 dX2_valueOf_33 (by decide) ?_
        have ee : ((if ((I a1 a3.toNatClampNeg) : Int32) < 10030 then 0 else if ((I a1 a3.toNatClampNeg) : Int32) = 10034 then 1 else 2) : Int32) = 1 := by rw [if_neg g8, if_pos g9]
        rw [ee] at key10
        clear ee
        exact key10
    · refine z_iconst 0 dX2_valueOf_19 (by decide) ?_
      refine z_goto 37 dX2_valueOf_20 (by decide) ?_
      have ee : ((if ((I a1 a3.toNatClampNeg) : Int32) < 10030 then 0 else if ((I a1 a3.toNatClampNeg) : Int32) = 10034 then 1 else 2) : Int32) = 0 := by rw [if_pos g8]
      rw [ee] at key10
      clear ee
      exact key10
theorem dX2_unitOf_0 : decode cX2_unitOf 0 = .ok (.iload_n 1, 1) := by decide +kernel
theorem dX2_unitOf_1 : decode cX2_unitOf 1 = .ok (.sipush 10000, 3) := by decide +kernel
theorem dX2_unitOf_4 : decode cX2_unitOf 4 = .ok (.if_icmp .ge 6, 3) := by decide +kernel
theorem dX2_unitOf_7 : decode cX2_unitOf 7 = .ok (.iload_n 1, 1) := by decide +kernel
theorem dX2_unitOf_8 : decode cX2_unitOf 8 = .ok (.i2l, 1) := by decide +kernel
theorem dX2_unitOf_9 : decode cX2_unitOf 9 = .ok (.lreturn, 1) := by decide +kernel
theorem dX2_unitOf_10 : decode cX2_unitOf 10 = .ok (.iload_n 1, 1) := by decide +kernel
theorem dX2_unitOf_11 : decode cX2_unitOf 11 = .ok (.sipush 10008, 3) := by decide +kernel
theorem dX2_unitOf_14 : decode cX2_unitOf 14 = .ok (.if_icmp .ge 15, 3) := by decide +kernel
theorem dX2_unitOf_17 : decode cX2_unitOf 17 = .ok (.aload_n 0, 1) := by decide +kernel
theorem dX2_unitOf_18 : decode cX2_unitOf 18 = .ok (.getfield 9, 3) := by decide +kernel
theorem dX2_unitOf_21 : decode cX2_unitOf 21 = .ok (.iload_n 1, 1) := by decide +kernel
theorem dX2_unitOf_22 : decode cX2_unitOf 22 = .ok (.sipush 10000, 3) := by decide +kernel
theorem dX2_unitOf_25 : decode cX2_unitOf 25 = .ok (.isub, 1) := by decide +kernel
theorem dX2_unitOf_26 : decode cX2_unitOf 26 = .ok (.iaload, 1) := by decide +kernel
theorem dX2_unitOf_27 : decode cX2_unitOf 27 = .ok (.i2l, 1) := by decide +kernel
theorem dX2_unitOf_28 : decode cX2_unitOf 28 = .ok (.lreturn, 1) := by decide +kernel
theorem dX2_unitOf_29 : decode cX2_unitOf 29 = .ok (.iload_n 1, 1) := by decide +kernel
theorem dX2_unitOf_30 : decode cX2_unitOf 30 = .ok (.sipush 10020, 3) := by decide +kernel
theorem dX2_unitOf_33 : decode cX2_unitOf 33 = .ok (.if_icmp .ge 11, 3) := by decide +kernel
theorem dX2_unitOf_36 : decode cX2_unitOf 36 = .ok (.iload_n 1, 1) := by decide +kernel
theorem dX2_unitOf_37 : decode cX2_unitOf 37 = .ok (.sipush 10010, 3) := by decide +kernel
theorem dX2_unitOf_40 : decode cX2_unitOf 40 = .ok (.isub, 1) := by decide +kernel
theorem dX2_unitOf_41 : decode cX2_unitOf 41 = .ok (.goto 8, 3) := by decide +kernel
theorem dX2_unitOf_44 : decode cX2_unitOf 44 = .ok (.iload_n 1, 1) := by decide +kernel
theorem dX2_unitOf_45 : decode cX2_unitOf 45 = .ok (.sipush 10020, 3) := by decide +kernel
theorem dX2_unitOf_48 : decode cX2_unitOf 48 = .ok (.isub, 1) := by decide +kernel
theorem dX2_unitOf_49 : decode cX2_unitOf 49 = .ok (.istore_n 2, 1) := by decide +kernel
theorem dX2_unitOf_50 : decode cX2_unitOf 50 = .ok (.iload_n 2, 1) := by decide +kernel
theorem dX2_unitOf_51 : decode cX2_unitOf 51 = .ok (.ifCond .lt 9, 3) := by decide +kernel
theorem dX2_unitOf_54 : decode cX2_unitOf 54 = .ok (.iload_n 2, 1) := by decide +kernel
theorem dX2_unitOf_55 : decode cX2_unitOf 55 = .ok (.bipush 10, 2) := by decide +kernel
theorem dX2_unitOf_57 : decode cX2_unitOf 57 = .ok (.if_icmp .lt 7, 3) := by decide +kernel
theorem dX2_unitOf_60 : decode cX2_unitOf 60 = .ok (.ldc2_w 119, 3) := by decide +kernel
theorem dX2_unitOf_63 : decode cX2_unitOf 63 = .ok (.lreturn, 1) := by decide +kernel
theorem dX2_unitOf_64 : decode cX2_unitOf 64 = .ok (.iload_n 1, 1) := by decide +kernel
theorem dX2_unitOf_65 : decode cX2_unitOf 65 = .ok (.sipush 10020, 3) := by decide +kernel
theorem dX2_unitOf_68 : decode cX2_unitOf 68 = .ok (.if_icmp .ge 13, 3) := by decide +kernel
theorem dX2_unitOf_71 : decode cX2_unitOf 71 = .ok (.aload_n 0, 1) := by decide +kernel
theorem dX2_unitOf_72 : decode cX2_unitOf 72 = .ok (.getfield 24, 3) := by decide +kernel
theorem dX2_unitOf_75 : decode cX2_unitOf 75 = .ok (.iload_n 2, 1) := by decide +kernel
theorem dX2_unitOf_76 : decode cX2_unitOf 76 = .ok (.iaload, 1) := by decide +kernel
theorem dX2_unitOf_77 : decode cX2_unitOf 77 = .ok (.i2l, 1) := by decide +kernel
theorem dX2_unitOf_78 : decode cX2_unitOf 78 = .ok (.goto 10, 3) := by decide +kernel
theorem dX2_unitOf_81 : decode cX2_unitOf 81 = .ok (.aload_n 0, 1) := by decide +kernel
theorem dX2_unitOf_82 : decode cX2_unitOf 82 = .ok (.getfield 27, 3) := by decide +kernel
theorem dX2_unitOf_85 : decode cX2_unitOf 85 = .ok (.iload_n 2, 1) := by decide +kernel
theorem dX2_unitOf_86 : decode cX2_unitOf 86 = .ok (.iaload, 1) := by decide +kernel
theorem dX2_unitOf_87 : decode cX2_unitOf 87 = .ok (.i2l, 1) := by decide +kernel
theorem dX2_unitOf_88 : decode cX2_unitOf 88 = .ok (.lreturn, 1) := by decide +kernel
set_option maxRecDepth 100000 in
set_option maxHeartbeats 4000000 in
theorem wp_X2_unitOf {n0 d : Nat} {K : z_K} {I : z_I} {L : z_L} {Q : z_q} {p0 : Int32} (hL : CLay K) (h : (if p0 < 10000 then Q (some (.long p0.toInt64)) I L else (if p0 < 10008 then vp_in (p0 - 10000) 8 ∧ Q (some (.long (((I 9 ((p0 - 10000).toNatClampNeg)) : Int32).toInt64))) I L else (if ((if p0 < 10020 then (p0 - 10010) else (p0 - 10020)) : Int32) < 0 then Q (some (.long (-1152921504606846976))) I L else (if ((if p0 < 10020 then (p0 - 10010) else (p0 - 10020)) : Int32) < 10 then (¬ (p0 < 10020) → vp_in (if p0 < 10020 then (p0 - 10010) else (p0 - 10020)) 10) ∧ (p0 < 10020 → vp_in (if p0 < 10020 then (p0 - 10010) else (p0 - 10020)) 10) ∧ Q (some (.long (if p0 < 10020 then ((I 13 ((if p0 < 10020 then (p0 - 10010) else (p0 - 10020)).toNatClampNeg)) : Int32).toInt64 else ((I 14 ((if p0 < 10020 then (p0 - 10010) else (p0 - 10020)).toNatClampNeg)) : Int32).toInt64))) I L else Q (some (.long (-1152921504606846976))) I L))))) : RM0 n0 xX2_unitOf d [.ref (n0 + 8), .int p0] K I L Q := by
  refine z_entry0 (by decide) (Nat.le_of_ble_eq_true rfl) ?_
  change Z n0 xX2_unitOf d 0 0 0 [(0, .ref (n0 + 8)), (1, .int p0)] [] K I L (z_q0 K Q)
  refine z_iload_n 1 dX2_unitOf_0 rfl ?_
  refine z_sipush 10000 dX2_unitOf_1 (by decide) ?_
  refine z_icmp_ge 10 dX2_unitOf_4 (by decide) (fun g1 => ?_) (fun g1 => ?_)
  · rw [if_neg g1] at h
    refine z_iload_n 1 dX2_unitOf_10 rfl ?_
    refine z_sipush 10008 dX2_unitOf_11 (by decide) ?_
    refine z_icmp_ge 29 dX2_unitOf_14 (by decide) (fun g2 => ?_) (fun g2 => ?_)
    · rw [if_neg g2] at h
      refine z_iload_n 1 dX2_unitOf_29 rfl ?_
      refine z_sipush 10020 dX2_unitOf_30 (by decide) ?_
      have key4 : Z n0 xX2_unitOf d 0 0 49 [(0, .ref (n0 + 8)), (1, .int p0)] [.int (if p0 < 10020 then (p0 - 10010) else (p0 - 10020))] K I L (z_q0 K Q) := by
        refine z_istore_n [1, 2, 0] [(0, .ref (n0 + 8)), (1, .int p0), (2, .int (if p0 < 10020 then (p0 - 10010) else (p0 - 10020)))] dX2_unitOf_49 (by decide) rfl ?_
        refine z_iload_n 2 dX2_unitOf_50 rfl ?_
        refine z_if_lt 60 dX2_unitOf_51 (by decide) (fun g5 => ?_) (fun g5 => ?_)
        · rw [if_pos g5] at h
          refine z_ldc2_w (-1152921504606846976) dX2_unitOf_60 wg_855 ?_
          exact z_lret dX2_unitOf_63 rfl ⟨rfl, h⟩
        · rw [if_neg g5] at h
          refine z_iload_n 2 dX2_unitOf_54 rfl ?_
          refine z_bipush 10 dX2_unitOf_55 (by decide) ?_
          refine z_icmp_lt 64 dX2_unitOf_57 (by decide) (fun g6 => ?_) (fun g6 => ?_)
          · rw [if_pos g6] at h
            refine z_iload_n 1 dX2_unitOf_64 rfl ?_
            refine z_sipush 10020 dX2_unitOf_65 (by decide) ?_
            obtain ⟨o8, o9, h⟩ := h
            have key10 : Z n0 xX2_unitOf d 0 0 88 [] [.long (if p0 < 10020 then ((I 13 ((if p0 < 10020 then (p0 - 10010) else (p0 - 10020)).toNatClampNeg)) : Int32).toInt64 else ((I 14 ((if p0 < 10020 then (p0 - 10010) else (p0 - 10020)).toNatClampNeg)) : Int32).toInt64)] K I L (z_q0 K Q) := by
              exact z_lret dX2_unitOf_88 rfl ⟨rfl, h⟩
            refine z_icmp_ge 81 dX2_unitOf_68 (by decide) (fun g7 => ?_) (fun g7 => ?_)
            · refine z_aload_n 0 dX2_unitOf_81 rfl ?_
              refine fg_2_27 (some 14) rfl dX2_unitOf_82 (co_8 hL).1 (co_8 hL).2 (ca_14 hL).1 ?_
              refine z_iload_n 2 dX2_unitOf_85 rfl ?_
              refine z_iald (I 14 ((if p0 < 10020 then (p0 - 10010) else (p0 - 10020)).toNatClampNeg)) dX2_unitOf_86 (ca_14 hL).2.1 (ca_14 hL).2.2 (o8 g7) rfl ?_
              refine z_i2l dX2_unitOf_87 ?_
              have ee : ((if p0 < 10020 then ((I 13 ((if p0 < 10020 then (p0 - 10010) else (p0 - 10020)).toNatClampNeg)) : Int32).toInt64 else ((I 14 ((if p0 < 10020 then (p0 - 10010) else (p0 - 10020)).toNatClampNeg)) : Int32).toInt64) : Int64) = ((I 14 ((if p0 < 10020 then (p0 - 10010) else (p0 - 10020)).toNatClampNeg)) : Int32).toInt64 := by rw [if_neg g7]
              rw [ee] at key10
              clear ee
              refine z_sub [] rfl ?_
              exact key10
            · refine z_aload_n 0 dX2_unitOf_71 rfl ?_
              refine fg_2_24 (some 13) rfl dX2_unitOf_72 (co_8 hL).1 (co_8 hL).2 (ca_13 hL).1 ?_
              refine z_iload_n 2 dX2_unitOf_75 rfl ?_
              refine z_iald (I 13 ((if p0 < 10020 then (p0 - 10010) else (p0 - 10020)).toNatClampNeg)) dX2_unitOf_76 (ca_13 hL).2.1 (ca_13 hL).2.2 (o9 g7) rfl ?_
              refine z_i2l dX2_unitOf_77 ?_
              refine z_goto 88 dX2_unitOf_78 (by decide) ?_
              have ee : ((if p0 < 10020 then ((I 13 ((if p0 < 10020 then (p0 - 10010) else (p0 - 10020)).toNatClampNeg)) : Int32).toInt64 else ((I 14 ((if p0 < 10020 then (p0 - 10010) else (p0 - 10020)).toNatClampNeg)) : Int32).toInt64) : Int64) = ((I 13 ((if p0 < 10020 then (p0 - 10010) else (p0 - 10020)).toNatClampNeg)) : Int32).toInt64 := by rw [if_pos g7]
              rw [ee] at key10
              clear ee
              refine z_sub [] rfl ?_
              exact key10
          · rw [if_neg g6] at h
            refine z_ldc2_w (-1152921504606846976) dX2_unitOf_60 wg_855 ?_
            exact z_lret dX2_unitOf_63 rfl ⟨rfl, h⟩
      refine z_icmp_ge 44 dX2_unitOf_33 (by decide) (fun g3 => ?_) (fun g3 => ?_)
      · refine z_iload_n 1 dX2_unitOf_44 rfl ?_
        refine z_sipush 10020 dX2_unitOf_45 (by decide) ?_
        refine z_isub dX2_unitOf_48 ?_
        have ee : ((if p0 < 10020 then (p0 - 10010) else (p0 - 10020)) : Int32) = (p0 - 10020) := by rw [if_neg g3]
        rw [ee] at key4
        clear ee
        exact key4
      · refine z_iload_n 1 dX2_unitOf_36 rfl ?_
        refine z_sipush 10010 dX2_unitOf_37 (by decide) ?_
        refine z_isub dX2_unitOf_40 ?_
        refine z_goto 49 dX2_unitOf_41 (by decide) ?_
        have ee : ((if p0 < 10020 then (p0 - 10010) else (p0 - 10020)) : Int32) = (p0 - 10010) := by rw [if_pos g3]
        rw [ee] at key4
        clear ee
        exact key4
    · rw [if_pos g2] at h
      refine z_aload_n 0 dX2_unitOf_17 rfl ?_
      refine fg_2_9 (some 9) rfl dX2_unitOf_18 (co_8 hL).1 (co_8 hL).2 (ca_9 hL).1 ?_
      refine z_iload_n 1 dX2_unitOf_21 rfl ?_
      refine z_sipush 10000 dX2_unitOf_22 (by decide) ?_
      refine z_isub dX2_unitOf_25 ?_
      obtain ⟨o11, h⟩ := h
      refine z_iald (I 9 ((p0 - 10000).toNatClampNeg)) dX2_unitOf_26 (ca_9 hL).2.1 (ca_9 hL).2.2 o11 rfl ?_
      refine z_i2l dX2_unitOf_27 ?_
      exact z_lret dX2_unitOf_28 rfl ⟨rfl, h⟩
  · rw [if_pos g1] at h
    refine z_iload_n 1 dX2_unitOf_7 rfl ?_
    refine z_i2l dX2_unitOf_8 ?_
    exact z_lret dX2_unitOf_9 rfl ⟨rfl, h⟩
theorem dX2_combine_0 : decode cX2_combine 0 = .ok (.iload_n 0, 1) := by decide +kernel
theorem dX2_combine_1 : decode cX2_combine 1 = .ok (.tableswitch 39 10030 10032 #[27, 31, 35], 27) := by decide +kernel
theorem dX2_combine_28 : decode cX2_combine 28 = .ok (.lload_n 1, 1) := by decide +kernel
theorem dX2_combine_29 : decode cX2_combine 29 = .ok (.lload_n 3, 1) := by decide +kernel
theorem dX2_combine_30 : decode cX2_combine 30 = .ok (.ladd, 1) := by decide +kernel
theorem dX2_combine_31 : decode cX2_combine 31 = .ok (.lreturn, 1) := by decide +kernel
theorem dX2_combine_32 : decode cX2_combine 32 = .ok (.lload_n 1, 1) := by decide +kernel
theorem dX2_combine_33 : decode cX2_combine 33 = .ok (.lload_n 3, 1) := by decide +kernel
theorem dX2_combine_34 : decode cX2_combine 34 = .ok (.lsub, 1) := by decide +kernel
theorem dX2_combine_35 : decode cX2_combine 35 = .ok (.lreturn, 1) := by decide +kernel
theorem dX2_combine_36 : decode cX2_combine 36 = .ok (.lload_n 1, 1) := by decide +kernel
theorem dX2_combine_37 : decode cX2_combine 37 = .ok (.lload_n 3, 1) := by decide +kernel
theorem dX2_combine_38 : decode cX2_combine 38 = .ok (.lmul, 1) := by decide +kernel
theorem dX2_combine_39 : decode cX2_combine 39 = .ok (.lreturn, 1) := by decide +kernel
theorem dX2_combine_40 : decode cX2_combine 40 = .ok (.lload_n 3, 1) := by decide +kernel
theorem dX2_combine_41 : decode cX2_combine 41 = .ok (.lconst 0, 1) := by decide +kernel
theorem dX2_combine_42 : decode cX2_combine 42 = .ok (.lcmp, 1) := by decide +kernel
theorem dX2_combine_43 : decode cX2_combine 43 = .ok (.ifCond .ne 9, 3) := by decide +kernel
theorem dX2_combine_46 : decode cX2_combine 46 = .ok (.ldc2_w 119, 3) := by decide +kernel
theorem dX2_combine_49 : decode cX2_combine 49 = .ok (.goto 6, 3) := by decide +kernel
theorem dX2_combine_52 : decode cX2_combine 52 = .ok (.lload_n 1, 1) := by decide +kernel
theorem dX2_combine_53 : decode cX2_combine 53 = .ok (.lload_n 3, 1) := by decide +kernel
theorem dX2_combine_54 : decode cX2_combine 54 = .ok (.ldiv, 1) := by decide +kernel
theorem dX2_combine_55 : decode cX2_combine 55 = .ok (.lreturn, 1) := by decide +kernel
set_option maxRecDepth 100000 in
set_option maxHeartbeats 4000000 in
theorem wp_X2_combine {n0 d : Nat} {K : z_K} {I : z_I} {L : z_L} {Q : z_q} {p0 : Int32} {p1 : Int64} {p2 : Int64} (hL : CLay K) (h : (if p0 = 10030 then Q (some (.long (p1 + p2))) I L else (if p0 = 10031 then Q (some (.long (p1 - p2))) I L else (if p0 = 10032 then Q (some (.long (p1 * p2))) I L else (if p2 = 0 then Q (some (.long (-1152921504606846976))) I L else ¬ (p2 : Int64) = 0 ∧ Q (some (.long (p1 / p2))) I L))))) : RM0 n0 xX2_combine d [.int p0, .long p1, .long p2] K I L Q := by
  refine z_entry0 (by decide) (Nat.le_of_ble_eq_true rfl) ?_
  change Z n0 xX2_combine d 0 0 0 [(0, .int p0), (1, .long p1), (3, .long p2)] [] K I L (z_q0 K Q)
  refine z_iload_n 0 dX2_combine_0 rfl ?_
  by_cases g1 : p0 = 10030
  · rw [if_pos g1] at h
    refine z_tabIn 28 dX2_combine_1 (by rw [g1]; decide) (by rw [g1]; decide) (off := 27) (by rw [g1]; rfl) (by decide) ?_
    refine z_lload_n 1 dX2_combine_28 rfl ?_
    refine z_lload_n 2 dX2_combine_29 rfl ?_
    refine z_ladd dX2_combine_30 ?_
    exact z_lret dX2_combine_31 rfl ⟨rfl, h⟩
  rw [if_neg g1] at h
  by_cases g2 : p0 = 10031
  · rw [if_pos g2] at h
    refine z_tabIn 32 dX2_combine_1 (by rw [g2]; decide) (by rw [g2]; decide) (off := 31) (by rw [g2]; rfl) (by decide) ?_
    refine z_lload_n 1 dX2_combine_32 rfl ?_
    refine z_lload_n 2 dX2_combine_33 rfl ?_
    refine z_lsub dX2_combine_34 ?_
    exact z_lret dX2_combine_35 rfl ⟨rfl, h⟩
  rw [if_neg g2] at h
  by_cases g3 : p0 = 10032
  · rw [if_pos g3] at h
    refine z_tabIn 36 dX2_combine_1 (by rw [g3]; decide) (by rw [g3]; decide) (off := 35) (by rw [g3]; rfl) (by decide) ?_
    refine z_lload_n 1 dX2_combine_36 rfl ?_
    refine z_lload_n 2 dX2_combine_37 rfl ?_
    refine z_lmul dX2_combine_38 ?_
    exact z_lret dX2_combine_39 rfl ⟨rfl, h⟩
  rw [if_neg g3] at h
  refine z_tabOut 40 dX2_combine_1 (z_tout_10030_10032 g1 g2 g3) (by decide) ?_
  refine z_lload_n 2 dX2_combine_40 rfl ?_
  refine z_lconst 0 dX2_combine_41 (by decide) ?_
  refine z_lif_ne 52 dX2_combine_42 dX2_combine_43 (by decide) (fun g4 => ?_) (fun g4 => ?_)
  · rw [if_neg g4] at h
    refine z_lload_n 1 dX2_combine_52 rfl ?_
    refine z_lload_n 2 dX2_combine_53 rfl ?_
    obtain ⟨o5, h⟩ := h
    refine z_ldiv dX2_combine_54 o5 ?_
    exact z_lret dX2_combine_55 rfl ⟨rfl, h⟩
  · rw [if_pos g4] at h
    refine z_ldc2_w (-1152921504606846976) dX2_combine_46 wg_855 ?_
    refine z_goto 55 dX2_combine_49 (by decide) ?_
    exact z_lret dX2_combine_55 rfl ⟨rfl, h⟩
theorem dX2_comesFrom_0 : decode cX2_comesFrom 0 = .ok (.iconst 0, 1) := by decide +kernel
theorem dX2_comesFrom_1 : decode cX2_comesFrom 1 = .ok (.istore 4, 2) := by decide +kernel
theorem dX2_comesFrom_3 : decode cX2_comesFrom 3 = .ok (.aload_n 1, 1) := by decide +kernel
theorem dX2_comesFrom_4 : decode cX2_comesFrom 4 = .ok (.astore 5, 2) := by decide +kernel
theorem dX2_comesFrom_6 : decode cX2_comesFrom 6 = .ok (.aload 5, 2) := by decide +kernel
theorem dX2_comesFrom_8 : decode cX2_comesFrom 8 = .ok (.ifnull 32, 3) := by decide +kernel
theorem dX2_comesFrom_11 : decode cX2_comesFrom 11 = .ok (.iload 4, 2) := by decide +kernel
theorem dX2_comesFrom_13 : decode cX2_comesFrom 13 = .ok (.bipush 16, 2) := by decide +kernel
theorem dX2_comesFrom_15 : decode cX2_comesFrom 15 = .ok (.if_icmp .ge 25, 3) := by decide +kernel
theorem dX2_comesFrom_18 : decode cX2_comesFrom 18 = .ok (.aload_n 0, 1) := by decide +kernel
theorem dX2_comesFrom_19 : decode cX2_comesFrom 19 = .ok (.getfield 32, 3) := by decide +kernel
theorem dX2_comesFrom_22 : decode cX2_comesFrom 22 = .ok (.iload 4, 2) := by decide +kernel
theorem dX2_comesFrom_24 : decode cX2_comesFrom 24 = .ok (.aload 5, 2) := by decide +kernel
theorem dX2_comesFrom_26 : decode cX2_comesFrom 26 = .ok (.aastore, 1) := by decide +kernel
theorem dX2_comesFrom_27 : decode cX2_comesFrom 27 = .ok (.iinc 4 1, 3) := by decide +kernel
theorem dX2_comesFrom_30 : decode cX2_comesFrom 30 = .ok (.aload 5, 2) := by decide +kernel
theorem dX2_comesFrom_32 : decode cX2_comesFrom 32 = .ok (.getfield 72, 3) := by decide +kernel
theorem dX2_comesFrom_35 : decode cX2_comesFrom 35 = .ok (.astore 5, 2) := by decide +kernel
theorem dX2_comesFrom_37 : decode cX2_comesFrom 37 = .ok (.goto (-31), 3) := by decide +kernel
theorem dX2_comesFrom_40 : decode cX2_comesFrom 40 = .ok (.aload_n 0, 1) := by decide +kernel
theorem dX2_comesFrom_41 : decode cX2_comesFrom 41 = .ok (.getfield 40, 3) := by decide +kernel
theorem dX2_comesFrom_44 : decode cX2_comesFrom 44 = .ok (.iconst 0, 1) := by decide +kernel
theorem dX2_comesFrom_45 : decode cX2_comesFrom 45 = .ok (.invokestatic 63, 3) := by decide +kernel
theorem dX2_comesFrom_48 : decode cX2_comesFrom 48 = .ok (.iload 4, 2) := by decide +kernel
theorem dX2_comesFrom_50 : decode cX2_comesFrom 50 = .ok (.iconst 1, 1) := by decide +kernel
theorem dX2_comesFrom_51 : decode cX2_comesFrom 51 = .ok (.isub, 1) := by decide +kernel
theorem dX2_comesFrom_52 : decode cX2_comesFrom 52 = .ok (.istore 5, 2) := by decide +kernel
theorem dX2_comesFrom_54 : decode cX2_comesFrom 54 = .ok (.iload 5, 2) := by decide +kernel
theorem dX2_comesFrom_56 : decode cX2_comesFrom 56 = .ok (.ifCond .lt 21, 3) := by decide +kernel
theorem dX2_comesFrom_59 : decode cX2_comesFrom 59 = .ok (.aload_n 0, 1) := by decide +kernel
theorem dX2_comesFrom_60 : decode cX2_comesFrom 60 = .ok (.aload_n 0, 1) := by decide +kernel
theorem dX2_comesFrom_61 : decode cX2_comesFrom 61 = .ok (.getfield 32, 3) := by decide +kernel
theorem dX2_comesFrom_64 : decode cX2_comesFrom 64 = .ok (.iload 5, 2) := by decide +kernel
theorem dX2_comesFrom_66 : decode cX2_comesFrom 66 = .ok (.aaload, 1) := by decide +kernel
theorem dX2_comesFrom_67 : decode cX2_comesFrom 67 = .ok (.iload_n 3, 1) := by decide +kernel
theorem dX2_comesFrom_68 : decode cX2_comesFrom 68 = .ok (.invokevirtual 145, 3) := by decide +kernel
theorem dX2_comesFrom_71 : decode cX2_comesFrom 71 = .ok (.iinc 5 (-1), 3) := by decide +kernel
theorem dX2_comesFrom_74 : decode cX2_comesFrom 74 = .ok (.goto (-20), 3) := by decide +kernel
theorem dX2_comesFrom_77 : decode cX2_comesFrom 77 = .ok (.aload_n 0, 1) := by decide +kernel
theorem dX2_comesFrom_78 : decode cX2_comesFrom 78 = .ok (.getfield 40, 3) := by decide +kernel
theorem dX2_comesFrom_81 : decode cX2_comesFrom 81 = .ok (.iload_n 2, 1) := by decide +kernel
theorem dX2_comesFrom_82 : decode cX2_comesFrom 82 = .ok (.iaload, 1) := by decide +kernel
theorem dX2_comesFrom_83 : decode cX2_comesFrom 83 = .ok (.ireturn, 1) := by decide +kernel
set_option maxRecDepth 100000 in
set_option maxHeartbeats 4000000 in
theorem wp_X2_comesFrom {n0 d : Nat} {K : z_K} {I : z_I} {L : z_L} {Q : z_R} {p0 : Nat} {p1 : Int32} {p2 : Int32} (hL : CLay K) (h : Z n0 xX2_comesFrom (d + 1) 0 0 6 [(0, .ref (n0 + 8)), (2, .int p1), (3, .int p2), (4, .int 0), (5, .ref (n0 + p0))] [] K I L Q) : RM n0 xX2_comesFrom (d + 1) 0 0 [.ref (n0 + 8), .ref (n0 + p0), .int p1, .int p2] K I L Q := by
  refine z_entry (by decide) (Nat.le_of_ble_eq_true rfl) ?_
  change Z n0 xX2_comesFrom (d + 1) 0 0 0 [(0, .ref (n0 + 8)), (1, .ref (n0 + p0)), (2, .int p1), (3, .int p2)] [] K I L Q
  refine z_iconst 0 dX2_comesFrom_0 (by decide) ?_
  refine z_istore [1, 2, 3, 4, 0] [(0, .ref (n0 + 8)), (1, .ref (n0 + p0)), (2, .int p1), (3, .int p2), (4, .int 0)] dX2_comesFrom_1 (by decide) rfl ?_
  refine z_aload_n 1 dX2_comesFrom_3 rfl ?_
  refine z_astore [1, 2, 3, 4, 5, 0] [(0, .ref (n0 + 8)), (1, .ref (n0 + p0)), (2, .int p1), (3, .int p2), (4, .int 0), (5, .ref (n0 + p0))] dX2_comesFrom_4 (by decide) rfl ?_
  refine z_sub [0, 2, 3, 4, 5] rfl ?_
  exact h
set_option maxRecDepth 100000 in
set_option maxHeartbeats 4000000 in
theorem wp_X2_comesFrom_6 {n0 d : Nat} {rc rs : Nat} {K : z_K} {I : z_I} {L : z_L} {Q : z_R} {a2 : Int32} {a3 : Int32} {a4 : Int32} {a5 : Option Nat} (hL : CLay K) (h : ((a5 = none → RM0 n0 xJ7_fill_53178 d [.ref (n0 + 17), .int 0] K I L (fun vv I3 L4 => vv = none ∧ Z n0 xX2_comesFrom (d + 1) rc rs 54 [(0, .ref (n0 + 8)), (2, .int a2), (3, .int a3), (5, .int (a4 - 1))] [] K I3 L4 Q)) ∧ (∀ q2, a5 = some q2 → (if a4 < 16 then vp_in a4 16 ∧ q2 < K.1 ∧ (K.2.1 q2).1 = 5 ∧ q2 < (zR K 15 a4.toNatClampNeg (some q2)).1 ∧ ((zR K 15 a4.toNatClampNeg (some q2)).2.1 q2).1 = 5 ∧ (∀ o13, ((zR K 15 a4.toNatClampNeg (some q2))).2.2 q2 3 = o13 → Z n0 xX2_comesFrom (d + 1) rc rs 6 [(0, .ref (n0 + 8)), (2, .int a2), (3, .int a3), (4, .int (a4 + 1)), (5, zr n0 o13)] [] (zR K 15 a4.toNatClampNeg (some q2)) I L Q) else RM0 n0 xJ7_fill_53178 d [.ref (n0 + 17), .int 0] K I L (fun vv I6 L7 => vv = none ∧ Z n0 xX2_comesFrom (d + 1) rc rs 54 [(0, .ref (n0 + 8)), (2, .int a2), (3, .int a3), (5, .int (a4 - 1))] [] K I6 L7 Q))))) : Z n0 xX2_comesFrom (d + 1) rc rs 6 [(0, .ref (n0 + 8)), (2, .int a2), (3, .int a3), (4, .int a4), (5, zr n0 a5)] [] K I L Q := by
  refine z_aloadO 4 dX2_comesFrom_6 rfl ?_
  refine z_ifnull 40 dX2_comesFrom_8 (by decide) (fun g1 => ?_) (fun q2 g1 => ?_)
  · replace h := h.1 g1
    subst g1
    change Z n0 xX2_comesFrom (d + 1) rc rs 40 [(0, .ref (n0 + 8)), (2, .int a2), (3, .int a3), (4, .int a4), (5, .null)] [] K I L Q
    refine z_aload_n 0 dX2_comesFrom_40 rfl ?_
    refine fg_2_40 (some 17) rfl dX2_comesFrom_41 (co_8 hL).1 (co_8 hL).2 (ca_17 hL).1 ?_
    refine z_iconst 0 dX2_comesFrom_44 (by decide) ?_
    refine z_callS0 (As := [.ref (n0 + 17), .int 0]) (st := []) dX2_comesFrom_45 hy_J7_fill_53178 wg_774 wg_775 (Nat.le_refl _) (Nat.le_of_ble_eq_true rfl) (RM0.mono h ?_)
    clear h
    intro vv I3 L4 h
    obtain ⟨rfl, h⟩ := h
    change Z n0 xX2_comesFrom (d + 1) rc rs 48 [(0, .ref (n0 + 8)), (2, .int a2), (3, .int a3), (4, .int a4), (5, .null)] [] K I3 L4 Q
    refine z_iload 3 dX2_comesFrom_48 rfl ?_
    refine z_iconst 1 dX2_comesFrom_50 (by decide) ?_
    refine z_isub dX2_comesFrom_51 ?_
    refine z_istore [1, 2, 3, 4, 0] [(0, .ref (n0 + 8)), (2, .int a2), (3, .int a3), (4, .int a4), (5, .int (a4 - 1))] dX2_comesFrom_52 (by decide) rfl ?_
    refine z_sub [0, 1, 2, 4] rfl ?_
    exact h
  · replace h := h.2 q2 g1
    subst g1
    change Z n0 xX2_comesFrom (d + 1) rc rs 11 [(0, .ref (n0 + 8)), (2, .int a2), (3, .int a3), (4, .int a4), (5, .ref (n0 + q2))] [] K I L Q
    refine z_iload 3 dX2_comesFrom_11 rfl ?_
    refine z_bipush 16 dX2_comesFrom_13 (by decide) ?_
    refine z_icmp_ge 40 dX2_comesFrom_15 (by decide) (fun g5 => ?_) (fun g5 => ?_)
    · rw [if_neg g5] at h
      refine z_aload_n 0 dX2_comesFrom_40 rfl ?_
      refine fg_2_40 (some 17) rfl dX2_comesFrom_41 (co_8 hL).1 (co_8 hL).2 (ca_17 hL).1 ?_
      refine z_iconst 0 dX2_comesFrom_44 (by decide) ?_
      refine z_callS0 (As := [.ref (n0 + 17), .int 0]) (st := []) dX2_comesFrom_45 hy_J7_fill_53178 wg_774 wg_775 (Nat.le_refl _) (Nat.le_of_ble_eq_true rfl) (RM0.mono h ?_)
      clear h
      intro vv I6 L7 h
      obtain ⟨rfl, h⟩ := h
      change Z n0 xX2_comesFrom (d + 1) rc rs 48 [(0, .ref (n0 + 8)), (2, .int a2), (3, .int a3), (4, .int a4), (5, .ref (n0 + q2))] [] K I6 L7 Q
      refine z_iload 3 dX2_comesFrom_48 rfl ?_
      refine z_iconst 1 dX2_comesFrom_50 (by decide) ?_
      refine z_isub dX2_comesFrom_51 ?_
      refine z_istore [1, 2, 3, 4, 0] [(0, .ref (n0 + 8)), (2, .int a2), (3, .int a3), (4, .int a4), (5, .int (a4 - 1))] dX2_comesFrom_52 (by decide) rfl ?_
      refine z_sub [0, 1, 2, 4] rfl ?_
      exact h
    · rw [if_pos g5] at h
      refine z_aload_n 0 dX2_comesFrom_18 rfl ?_
      refine fg_2_32 (some 15) rfl dX2_comesFrom_19 (co_8 hL).1 (co_8 hL).2 (ca_15 hL).1 ?_
      refine z_iload 3 dX2_comesFrom_22 rfl ?_
      refine z_aload 4 dX2_comesFrom_24 rfl ?_
      obtain ⟨o8, o9, o10, h⟩ := h
      refine z_aast (t := 35) dX2_comesFrom_26 (ca_15 hL).2.1 (ca_15 hL).2.2 (by unfold z_rt; decide) o8 o9 o10 ?_
      refine z_iinc (j := 3) (a4 + 1) [1, 2, 3, 0, 4] [(0, .ref (n0 + 8)), (2, .int a2), (3, .int a3), (4, .int (a4 + 1)), (5, .ref (n0 + q2))] dX2_comesFrom_27 rfl rfl (by decide) rfl ?_
      refine z_aload 4 dX2_comesFrom_30 rfl ?_
      obtain ⟨o11, o12, h⟩ := h
      obtain ⟨o13, o13e⟩ : ∃ o, ((zR K 15 a4.toNatClampNeg (some q2))).2.2 q2 3 = o := ⟨_, rfl⟩
      replace h := h o13 o13e
      refine fg_2_72 o13 rfl dX2_comesFrom_32 o11 o12 o13e ?_
      refine z_astoreO [1, 2, 3, 4, 0] [(0, .ref (n0 + 8)), (2, .int a2), (3, .int a3), (4, .int (a4 + 1)), (5, zr n0 o13)] dX2_comesFrom_35 (by decide) (fun v hv => by subst hv; rfl) ?_
      refine z_goto 6 dX2_comesFrom_37 (by decide) ?_
      exact h
set_option maxRecDepth 100000 in
set_option maxHeartbeats 4000000 in
theorem wp_X2_comesFrom_54 {n0 d : Nat} {rc rs : Nat} {K : z_K} {I : z_I} {L : z_L} {Q : z_R} {a2 : Int32} {a3 : Int32} {a5 : Int32} (hL : CLay K) (h : (if a5 < 0 then vp_in a2 10 ∧ Q (some (.int (I 17 a2.toNatClampNeg))) K I L else vp_in a5 16 ∧ (∃ q4, K.2.2 15 a5.toNatClampNeg = some q4 ∧ RM0 n0 xX2_nameOne d [.ref (n0 + 8), .ref (n0 + q4), .int a3] K I L (fun vv I5 L6 => vv = none ∧ Z n0 xX2_comesFrom (d + 1) rc rs 54 [(0, .ref (n0 + 8)), (2, .int a2), (3, .int a3), (5, .int (a5 + (-1)))] [] K I5 L6 Q)))) : Z n0 xX2_comesFrom (d + 1) rc rs 54 [(0, .ref (n0 + 8)), (2, .int a2), (3, .int a3), (5, .int a5)] [] K I L Q := by
  refine z_iload 3 dX2_comesFrom_54 rfl ?_
  refine z_if_lt 77 dX2_comesFrom_56 (by decide) (fun g1 => ?_) (fun g1 => ?_)
  · rw [if_pos g1] at h
    refine z_aload_n 0 dX2_comesFrom_77 rfl ?_
    refine fg_2_40 (some 17) rfl dX2_comesFrom_78 (co_8 hL).1 (co_8 hL).2 (ca_17 hL).1 ?_
    refine z_iload_n 1 dX2_comesFrom_81 rfl ?_
    obtain ⟨o2, h⟩ := h
    refine z_iald (I 17 a2.toNatClampNeg) dX2_comesFrom_82 (ca_17 hL).2.1 (ca_17 hL).2.2 o2 rfl ?_
    exact z_iret dX2_comesFrom_83 rfl h
  · rw [if_neg g1] at h
    refine z_aload_n 0 dX2_comesFrom_59 rfl ?_
    refine z_aload_n 0 dX2_comesFrom_60 rfl ?_
    refine fg_2_32 (some 15) rfl dX2_comesFrom_61 (co_8 hL).1 (co_8 hL).2 (ca_15 hL).1 ?_
    refine z_iload 3 dX2_comesFrom_64 rfl ?_
    obtain ⟨o3, h⟩ := h
    obtain ⟨q4, q4e, h⟩ := h
    refine z_aald (some q4) dX2_comesFrom_66 (ca_15 hL).2.1 (ca_15 hL).2.2 (by unfold z_rt; decide) o3 q4e ?_
    refine z_iload_n 2 dX2_comesFrom_67 rfl ?_
    refine z_callV0 (As := [.ref (n0 + q4), .int a3]) (st := []) dX2_comesFrom_68 hy_X2_nameOne (co_8 hL).1 (co_8 hL).2 (by decide) wg_777 wg_779 wg_16 (Nat.le_refl _) (Nat.le_of_ble_eq_true rfl) (RM0.mono h ?_)
    clear h
    intro vv I5 L6 h
    obtain ⟨rfl, h⟩ := h
    change Z n0 xX2_comesFrom (d + 1) rc rs 71 [(0, .ref (n0 + 8)), (2, .int a2), (3, .int a3), (5, .int a5)] [] K I5 L6 Q
    refine z_iinc (j := 3) (a5 + (-1)) [1, 2, 3, 0] [(0, .ref (n0 + 8)), (2, .int a2), (3, .int a3), (5, .int (a5 + (-1)))] dX2_comesFrom_71 rfl rfl (by decide) rfl ?_
    refine z_goto 54 dX2_comesFrom_74 (by decide) ?_
    exact h
theorem dX2_nameOne_0 : decode cX2_nameOne 0 = .ok (.iconst 0, 1) := by decide +kernel
theorem dX2_nameOne_1 : decode cX2_nameOne 1 = .ok (.istore_n 3, 1) := by decide +kernel
theorem dX2_nameOne_2 : decode cX2_nameOne 2 = .ok (.iload_n 3, 1) := by decide +kernel
theorem dX2_nameOne_3 : decode cX2_nameOne 3 = .ok (.aload_n 1, 1) := by decide +kernel
theorem dX2_nameOne_4 : decode cX2_nameOne 4 = .ok (.getfield 80, 3) := by decide +kernel
theorem dX2_nameOne_7 : decode cX2_nameOne 7 = .ok (.if_icmp .ge 47, 3) := by decide +kernel
theorem dX2_nameOne_10 : decode cX2_nameOne 10 = .ok (.aload_n 1, 1) := by decide +kernel
theorem dX2_nameOne_11 : decode cX2_nameOne 11 = .ok (.iload_n 3, 1) := by decide +kernel
theorem dX2_nameOne_12 : decode cX2_nameOne 12 = .ok (.iload_n 2, 1) := by decide +kernel
theorem dX2_nameOne_13 : decode cX2_nameOne 13 = .ok (.invokevirtual 83, 3) := by decide +kernel
theorem dX2_nameOne_16 : decode cX2_nameOne 16 = .ok (.astore 4, 2) := by decide +kernel
theorem dX2_nameOne_18 : decode cX2_nameOne 18 = .ok (.aload 4, 2) := by decide +kernel
theorem dX2_nameOne_20 : decode cX2_nameOne 20 = .ok (.ifnull 28, 3) := by decide +kernel
theorem dX2_nameOne_23 : decode cX2_nameOne 23 = .ok (.aload_n 0, 1) := by decide +kernel
theorem dX2_nameOne_24 : decode cX2_nameOne 24 = .ok (.getfield 40, 3) := by decide +kernel
theorem dX2_nameOne_27 : decode cX2_nameOne 27 = .ok (.iload_n 3, 1) := by decide +kernel
theorem dX2_nameOne_28 : decode cX2_nameOne 28 = .ok (.aload_n 0, 1) := by decide +kernel
theorem dX2_nameOne_29 : decode cX2_nameOne 29 = .ok (.aload 4, 2) := by decide +kernel
theorem dX2_nameOne_31 : decode cX2_nameOne 31 = .ok (.getfield 107, 3) := by decide +kernel
theorem dX2_nameOne_34 : decode cX2_nameOne 34 = .ok (.invokevirtual 149, 3) := by decide +kernel
theorem dX2_nameOne_37 : decode cX2_nameOne 37 = .ok (.aload_n 0, 1) := by decide +kernel
theorem dX2_nameOne_38 : decode cX2_nameOne 38 = .ok (.aload 4, 2) := by decide +kernel
theorem dX2_nameOne_40 : decode cX2_nameOne 40 = .ok (.getfield 116, 3) := by decide +kernel
theorem dX2_nameOne_43 : decode cX2_nameOne 43 = .ok (.invokevirtual 149, 3) := by decide +kernel
theorem dX2_nameOne_46 : decode cX2_nameOne 46 = .ok (.ior, 1) := by decide +kernel
theorem dX2_nameOne_47 : decode cX2_nameOne 47 = .ok (.iastore, 1) := by decide +kernel
theorem dX2_nameOne_48 : decode cX2_nameOne 48 = .ok (.iinc 3 1, 3) := by decide +kernel
theorem dX2_nameOne_51 : decode cX2_nameOne 51 = .ok (.goto (-49), 3) := by decide +kernel
theorem dX2_nameOne_54 : decode cX2_nameOne 54 = .ok (.aload_n 1, 1) := by decide +kernel
theorem dX2_nameOne_55 : decode cX2_nameOne 55 = .ok (.getfield 80, 3) := by decide +kernel
theorem dX2_nameOne_58 : decode cX2_nameOne 58 = .ok (.istore_n 3, 1) := by decide +kernel
theorem dX2_nameOne_59 : decode cX2_nameOne 59 = .ok (.iload_n 3, 1) := by decide +kernel
theorem dX2_nameOne_60 : decode cX2_nameOne 60 = .ok (.bipush 10, 2) := by decide +kernel
theorem dX2_nameOne_62 : decode cX2_nameOne 62 = .ok (.if_icmp .ge 16, 3) := by decide +kernel
theorem dX2_nameOne_65 : decode cX2_nameOne 65 = .ok (.aload_n 0, 1) := by decide +kernel
theorem dX2_nameOne_66 : decode cX2_nameOne 66 = .ok (.getfield 40, 3) := by decide +kernel
theorem dX2_nameOne_69 : decode cX2_nameOne 69 = .ok (.iload_n 3, 1) := by decide +kernel
theorem dX2_nameOne_70 : decode cX2_nameOne 70 = .ok (.iconst 0, 1) := by decide +kernel
theorem dX2_nameOne_71 : decode cX2_nameOne 71 = .ok (.iastore, 1) := by decide +kernel
theorem dX2_nameOne_72 : decode cX2_nameOne 72 = .ok (.iinc 3 1, 3) := by decide +kernel
theorem dX2_nameOne_75 : decode cX2_nameOne 75 = .ok (.goto (-16), 3) := by decide +kernel
theorem dX2_nameOne_78 : decode cX2_nameOne 78 = .ok (.return_, 1) := by decide +kernel
set_option maxRecDepth 100000 in
set_option maxHeartbeats 4000000 in
theorem wp_X2_nameOne {n0 d : Nat} {K : z_K} {I : z_I} {L : z_L} {Q : z_q} {p0 : Nat} {p1 : Int32} (hL : CLay K) (h : Z n0 xX2_nameOne (d + 1) 0 0 2 [(0, .ref (n0 + 8)), (1, .ref (n0 + p0)), (2, .int p1), (3, .int 0)] [] K I L (z_q0 K Q)) : RM0 n0 xX2_nameOne (d + 1) [.ref (n0 + 8), .ref (n0 + p0), .int p1] K I L Q := by
  refine z_entry0 (by decide) (Nat.le_of_ble_eq_true rfl) ?_
  change Z n0 xX2_nameOne (d + 1) 0 0 0 [(0, .ref (n0 + 8)), (1, .ref (n0 + p0)), (2, .int p1)] [] K I L (z_q0 K Q)
  refine z_iconst 0 dX2_nameOne_0 (by decide) ?_
  refine z_istore_n [1, 2, 3, 0] [(0, .ref (n0 + 8)), (1, .ref (n0 + p0)), (2, .int p1), (3, .int 0)] dX2_nameOne_1 (by decide) rfl ?_
  exact h
set_option maxRecDepth 100000 in
set_option maxHeartbeats 4000000 in
theorem wp_X2_nameOne_2 {n0 d : Nat} {rc rs : Nat} {K : z_K} {I : z_I} {L : z_L} {Q : z_q} {a1 : Nat} {a2 : Int32} {a3 : Int32} (hL : CLay K) (h : a1 < K.1 ∧ (K.2.1 a1).1 = 5 ∧ (if a3 < (I a1 2) then RM0 n0 xX5_ruleOn d [.ref (n0 + a1), .int a3, .int a2] K I L (fun vv I4 L5 => ∃ r6 : Option Nat, vv = some (zr n0 r6) ∧ ((r6 = none → Z n0 xX2_nameOne (d + 1) rc rs 2 [(0, .ref (n0 + 8)), (1, .ref (n0 + a1)), (2, .int a2), (3, .int (a3 + 1))] [] K I4 L5 (z_q0 K Q)) ∧ (∀ q8, r6 = some q8 → q8 < K.1 ∧ (K.2.1 q8).1 = 6 ∧ (∃ q11, K.2.2 q8 1 = some q11 ∧ RM0 n0 xX2_namedIn d [.ref (n0 + 8), .ref (n0 + q11)] K I4 L5 (fun vv I12 L13 => ∃ r14 : Int32, vv = some (.int r14) ∧ (∃ q15, K.2.2 q8 2 = some q15 ∧ RM0 n0 xX2_namedIn d [.ref (n0 + 8), .ref (n0 + q15)] K I12 L13 (fun vv I16 L17 => ∃ r18 : Int32, vv = some (.int r18) ∧ vp_in a3 10 ∧ Z n0 xX2_nameOne (d + 1) rc rs 2 [(0, .ref (n0 + 8)), (1, .ref (n0 + a1)), (2, .int a2), (3, .int (a3 + 1))] [] K (zI I16 17 a3.toNatClampNeg (r14 ||| r18)) L17 (z_q0 K Q)))))))) else Z n0 xX2_nameOne (d + 1) rc rs 59 [(0, .ref (n0 + 8)), (3, .int (I a1 2))] [] K I L (z_q0 K Q))) : Z n0 xX2_nameOne (d + 1) rc rs 2 [(0, .ref (n0 + 8)), (1, .ref (n0 + a1)), (2, .int a2), (3, .int a3)] [] K I L (z_q0 K Q) := by
  refine z_iload_n 3 dX2_nameOne_2 rfl ?_
  refine z_aload_n 1 dX2_nameOne_3 rfl ?_
  obtain ⟨o1, o2, h⟩ := h
  refine fg_2_80 (I a1 2) rfl dX2_nameOne_4 o1 o2 rfl ?_
  refine z_icmp_ge 54 dX2_nameOne_7 (by decide) (fun g3 => ?_) (fun g3 => ?_)
  · rw [if_neg g3] at h
    refine z_aload_n 1 dX2_nameOne_54 rfl ?_
    refine fg_2_80 (I a1 2) rfl dX2_nameOne_55 o1 o2 rfl ?_
    refine z_istore_n [1, 2, 3, 0] [(0, .ref (n0 + 8)), (1, .ref (n0 + a1)), (2, .int a2), (3, .int (I a1 2))] dX2_nameOne_58 (by decide) rfl ?_
    refine z_sub [0, 3] rfl ?_
    exact h
  · rw [if_pos g3] at h
    refine z_aload_n 1 dX2_nameOne_10 rfl ?_
    refine z_iload_n 3 dX2_nameOne_11 rfl ?_
    refine z_iload_n 2 dX2_nameOne_12 rfl ?_
    refine z_callV0 (As := [.int a3, .int a2]) (st := []) dX2_nameOne_13 hy_X5_ruleOn o1 o2 (by decide) wg_781 wg_763 wg_764 (Nat.le_refl _) (Nat.le_of_ble_eq_true rfl) (RM0.mono h ?_)
    clear h
    intro vv I4 L5 h
    obtain ⟨r6, rfl, h⟩ := h
    change Z n0 xX2_nameOne (d + 1) rc rs 16 [(0, .ref (n0 + 8)), (1, .ref (n0 + a1)), (2, .int a2), (3, .int a3)] [zr n0 r6] K I4 L5 (z_q0 K Q)
    refine z_astoreO [1, 2, 3, 4, 0] [(0, .ref (n0 + 8)), (1, .ref (n0 + a1)), (2, .int a2), (3, .int a3), (4, zr n0 r6)] dX2_nameOne_16 (by decide) (fun v hv => by subst hv; rfl) ?_
    refine z_aloadO 4 dX2_nameOne_18 rfl ?_
    refine z_ifnull 48 dX2_nameOne_20 (by decide) (fun g7 => ?_) (fun q8 g7 => ?_)
    · replace h := h.1 g7
      subst g7
      change Z n0 xX2_nameOne (d + 1) rc rs 48 [(0, .ref (n0 + 8)), (1, .ref (n0 + a1)), (2, .int a2), (3, .int a3), (4, .null)] [] K I4 L5 (z_q0 K Q)
      refine z_iinc (j := 3) (a3 + 1) [1, 2, 3, 0, 4] [(0, .ref (n0 + 8)), (1, .ref (n0 + a1)), (2, .int a2), (3, .int (a3 + 1)), (4, .null)] dX2_nameOne_48 rfl rfl (by decide) rfl ?_
      refine z_goto 2 dX2_nameOne_51 (by decide) ?_
      refine z_sub [0, 1, 2, 3] rfl ?_
      exact h
    · replace h := h.2 q8 g7
      subst g7
      change Z n0 xX2_nameOne (d + 1) rc rs 23 [(0, .ref (n0 + 8)), (1, .ref (n0 + a1)), (2, .int a2), (3, .int a3), (4, .ref (n0 + q8))] [] K I4 L5 (z_q0 K Q)
      refine z_aload_n 0 dX2_nameOne_23 rfl ?_
      refine fg_2_40 (some 17) rfl dX2_nameOne_24 (co_8 hL).1 (co_8 hL).2 (ca_17 hL).1 ?_
      refine z_iload_n 3 dX2_nameOne_27 rfl ?_
      refine z_aload_n 0 dX2_nameOne_28 rfl ?_
      refine z_aload 4 dX2_nameOne_29 rfl ?_
      obtain ⟨o9, o10, h⟩ := h
      obtain ⟨q11, q11e, h⟩ := h
      refine fg_2_107 (some q11) rfl dX2_nameOne_31 o9 o10 q11e ?_
      refine z_callV0 (As := [.ref (n0 + q11)]) (st := [.int a3, .ref (n0 + 17)]) dX2_nameOne_34 hy_X2_namedIn (co_8 hL).1 (co_8 hL).2 (by decide) wg_782 wg_784 wg_17 (Nat.le_refl _) (Nat.le_of_ble_eq_true rfl) (RM0.mono h ?_)
      clear h
      intro vv I12 L13 h
      obtain ⟨r14, rfl, h⟩ := h
      change Z n0 xX2_nameOne (d + 1) rc rs 37 [(0, .ref (n0 + 8)), (1, .ref (n0 + a1)), (2, .int a2), (3, .int a3), (4, .ref (n0 + q8))] [.int r14, .int a3, .ref (n0 + 17)] K I12 L13 (z_q0 K Q)
      refine z_aload_n 0 dX2_nameOne_37 rfl ?_
      refine z_aload 4 dX2_nameOne_38 rfl ?_
      obtain ⟨q15, q15e, h⟩ := h
      refine fg_2_116 (some q15) rfl dX2_nameOne_40 o9 o10 q15e ?_
      refine z_callV0 (As := [.ref (n0 + q15)]) (st := [.int r14, .int a3, .ref (n0 + 17)]) dX2_nameOne_43 hy_X2_namedIn (co_8 hL).1 (co_8 hL).2 (by decide) wg_782 wg_784 wg_17 (Nat.le_refl _) (Nat.le_of_ble_eq_true rfl) (RM0.mono h ?_)
      clear h
      intro vv I16 L17 h
      obtain ⟨r18, rfl, h⟩ := h
      change Z n0 xX2_nameOne (d + 1) rc rs 46 [(0, .ref (n0 + 8)), (1, .ref (n0 + a1)), (2, .int a2), (3, .int a3), (4, .ref (n0 + q8))] [.int r18, .int r14, .int a3, .ref (n0 + 17)] K I16 L17 (z_q0 K Q)
      refine z_ior dX2_nameOne_46 ?_
      obtain ⟨o19, h⟩ := h
      refine z_iast dX2_nameOne_47 (ca_17 hL).2.1 (ca_17 hL).2.2 o19 ?_
      refine z_iinc (j := 3) (a3 + 1) [1, 2, 3, 0, 4] [(0, .ref (n0 + 8)), (1, .ref (n0 + a1)), (2, .int a2), (3, .int (a3 + 1)), (4, .ref (n0 + q8))] dX2_nameOne_48 rfl rfl (by decide) rfl ?_
      refine z_goto 2 dX2_nameOne_51 (by decide) ?_
      refine z_sub [0, 1, 2, 3] rfl ?_
      exact h
set_option maxRecDepth 100000 in
set_option maxHeartbeats 4000000 in
theorem wp_X2_nameOne_59 {n0 d : Nat} {rc rs : Nat} {K : z_K} {I : z_I} {L : z_L} {Q : z_q} {a3 : Int32} (hL : CLay K) (h : (if a3 < 10 then vp_in a3 10 ∧ Z n0 xX2_nameOne (d + 1) rc rs 59 [(0, .ref (n0 + 8)), (3, .int (a3 + 1))] [] K (zI I 17 a3.toNatClampNeg 0) L (z_q0 K Q) else Q none I L)) : Z n0 xX2_nameOne (d + 1) rc rs 59 [(0, .ref (n0 + 8)), (3, .int a3)] [] K I L (z_q0 K Q) := by
  refine z_iload_n 1 dX2_nameOne_59 rfl ?_
  refine z_bipush 10 dX2_nameOne_60 (by decide) ?_
  refine z_icmp_ge 78 dX2_nameOne_62 (by decide) (fun g1 => ?_) (fun g1 => ?_)
  · rw [if_neg g1] at h
    exact z_vret dX2_nameOne_78 rfl ⟨rfl, h⟩
  · rw [if_pos g1] at h
    refine z_aload_n 0 dX2_nameOne_65 rfl ?_
    refine fg_2_40 (some 17) rfl dX2_nameOne_66 (co_8 hL).1 (co_8 hL).2 (ca_17 hL).1 ?_
    refine z_iload_n 1 dX2_nameOne_69 rfl ?_
    refine z_iconst 0 dX2_nameOne_70 (by decide) ?_
    obtain ⟨o2, h⟩ := h
    refine z_iast dX2_nameOne_71 (ca_17 hL).2.1 (ca_17 hL).2.2 o2 ?_
    refine z_iinc (j := 1) (a3 + 1) [1, 0] [(0, .ref (n0 + 8)), (3, .int (a3 + 1))] dX2_nameOne_72 rfl rfl (by decide) rfl ?_
    refine z_goto 59 dX2_nameOne_75 (by decide) ?_
    exact h
theorem dX2_namedIn_0 : decode cX2_namedIn 0 = .ok (.iconst 0, 1) := by decide +kernel
theorem dX2_namedIn_1 : decode cX2_namedIn 1 = .ok (.istore_n 2, 1) := by decide +kernel
theorem dX2_namedIn_2 : decode cX2_namedIn 2 = .ok (.iconst 0, 1) := by decide +kernel
theorem dX2_namedIn_3 : decode cX2_namedIn 3 = .ok (.istore_n 3, 1) := by decide +kernel
theorem dX2_namedIn_4 : decode cX2_namedIn 4 = .ok (.iload_n 3, 1) := by decide +kernel
theorem dX2_namedIn_5 : decode cX2_namedIn 5 = .ok (.aload_n 1, 1) := by decide +kernel
theorem dX2_namedIn_6 : decode cX2_namedIn 6 = .ok (.arraylength, 1) := by decide +kernel
theorem dX2_namedIn_7 : decode cX2_namedIn 7 = .ok (.if_icmp .ge 63, 3) := by decide +kernel
theorem dX2_namedIn_10 : decode cX2_namedIn 10 = .ok (.aload_n 1, 1) := by decide +kernel
theorem dX2_namedIn_11 : decode cX2_namedIn 11 = .ok (.iload_n 3, 1) := by decide +kernel
theorem dX2_namedIn_12 : decode cX2_namedIn 12 = .ok (.iaload, 1) := by decide +kernel
theorem dX2_namedIn_13 : decode cX2_namedIn 13 = .ok (.istore 4, 2) := by decide +kernel
theorem dX2_namedIn_15 : decode cX2_namedIn 15 = .ok (.iload 4, 2) := by decide +kernel
theorem dX2_namedIn_17 : decode cX2_namedIn 17 = .ok (.invokestatic 153, 3) := by decide +kernel
theorem dX2_namedIn_20 : decode cX2_namedIn 20 = .ok (.istore 5, 2) := by decide +kernel
theorem dX2_namedIn_22 : decode cX2_namedIn 22 = .ok (.iload 5, 2) := by decide +kernel
theorem dX2_namedIn_24 : decode cX2_namedIn 24 = .ok (.ifCond .lt 13, 3) := by decide +kernel
theorem dX2_namedIn_27 : decode cX2_namedIn 27 = .ok (.iload_n 2, 1) := by decide +kernel
theorem dX2_namedIn_28 : decode cX2_namedIn 28 = .ok (.aload_n 0, 1) := by decide +kernel
theorem dX2_namedIn_29 : decode cX2_namedIn 29 = .ok (.getfield 40, 3) := by decide +kernel
theorem dX2_namedIn_32 : decode cX2_namedIn 32 = .ok (.iload 5, 2) := by decide +kernel
theorem dX2_namedIn_34 : decode cX2_namedIn 34 = .ok (.iaload, 1) := by decide +kernel
theorem dX2_namedIn_35 : decode cX2_namedIn 35 = .ok (.ior, 1) := by decide +kernel
theorem dX2_namedIn_36 : decode cX2_namedIn 36 = .ok (.istore_n 2, 1) := by decide +kernel
theorem dX2_namedIn_37 : decode cX2_namedIn 37 = .ok (.iload 4, 2) := by decide +kernel
theorem dX2_namedIn_39 : decode cX2_namedIn 39 = .ok (.sipush 10000, 3) := by decide +kernel
theorem dX2_namedIn_42 : decode cX2_namedIn 42 = .ok (.if_icmp .lt 22, 3) := by decide +kernel
theorem dX2_namedIn_45 : decode cX2_namedIn 45 = .ok (.iload 4, 2) := by decide +kernel
theorem dX2_namedIn_47 : decode cX2_namedIn 47 = .ok (.sipush 10008, 3) := by decide +kernel
theorem dX2_namedIn_50 : decode cX2_namedIn 50 = .ok (.if_icmp .ge 14, 3) := by decide +kernel
theorem dX2_namedIn_53 : decode cX2_namedIn 53 = .ok (.iload_n 2, 1) := by decide +kernel
theorem dX2_namedIn_54 : decode cX2_namedIn 54 = .ok (.iconst 1, 1) := by decide +kernel
theorem dX2_namedIn_55 : decode cX2_namedIn 55 = .ok (.iload 4, 2) := by decide +kernel
theorem dX2_namedIn_57 : decode cX2_namedIn 57 = .ok (.sipush 10000, 3) := by decide +kernel
theorem dX2_namedIn_60 : decode cX2_namedIn 60 = .ok (.isub, 1) := by decide +kernel
theorem dX2_namedIn_61 : decode cX2_namedIn 61 = .ok (.ishl, 1) := by decide +kernel
theorem dX2_namedIn_62 : decode cX2_namedIn 62 = .ok (.ior, 1) := by decide +kernel
theorem dX2_namedIn_63 : decode cX2_namedIn 63 = .ok (.istore_n 2, 1) := by decide +kernel
theorem dX2_namedIn_64 : decode cX2_namedIn 64 = .ok (.iinc 3 1, 3) := by decide +kernel
theorem dX2_namedIn_67 : decode cX2_namedIn 67 = .ok (.goto (-63), 3) := by decide +kernel
theorem dX2_namedIn_70 : decode cX2_namedIn 70 = .ok (.iload_n 2, 1) := by decide +kernel
theorem dX2_namedIn_71 : decode cX2_namedIn 71 = .ok (.ireturn, 1) := by decide +kernel
set_option maxRecDepth 100000 in
set_option maxHeartbeats 4000000 in
theorem wp_X2_namedIn {n0 d : Nat} {K : z_K} {I : z_I} {L : z_L} {Q : z_q} {p0 : Nat} (hL : CLay K) (h : Z n0 xX2_namedIn (d + 1) 0 0 4 [(0, .ref (n0 + 8)), (1, .ref (n0 + p0)), (2, .int 0), (3, .int 0)] [] K I L (z_q0 K Q)) : RM0 n0 xX2_namedIn (d + 1) [.ref (n0 + 8), .ref (n0 + p0)] K I L Q := by
  refine z_entry0 (by decide) (Nat.le_of_ble_eq_true rfl) ?_
  change Z n0 xX2_namedIn (d + 1) 0 0 0 [(0, .ref (n0 + 8)), (1, .ref (n0 + p0))] [] K I L (z_q0 K Q)
  refine z_iconst 0 dX2_namedIn_0 (by decide) ?_
  refine z_istore_n [1, 2, 0] [(0, .ref (n0 + 8)), (1, .ref (n0 + p0)), (2, .int 0)] dX2_namedIn_1 (by decide) rfl ?_
  refine z_iconst 0 dX2_namedIn_2 (by decide) ?_
  refine z_istore_n [1, 2, 3, 0] [(0, .ref (n0 + 8)), (1, .ref (n0 + p0)), (2, .int 0), (3, .int 0)] dX2_namedIn_3 (by decide) rfl ?_
  exact h
set_option maxRecDepth 100000 in
set_option maxHeartbeats 4000000 in
theorem wp_X2_namedIn_4 {n0 d : Nat} {rc rs : Nat} {K : z_K} {I : z_I} {L : z_L} {Q : z_q} {a1 : Nat} {a2 : Int32} {a3 : Int32} (hL : CLay K) (h : ∃ n1, a1 < K.1 ∧ K.2.1 a1 = (20, n1) ∧ (if a3 < (Int32.ofNat n1) then vp_in a3 n1 ∧ RM0 n0 xX2_pointOf d [.int (I a1 a3.toNatClampNeg)] K I L (fun vv I6 L7 => ∃ r8 : Int32, vv = some (.int r8) ∧ (¬ (r8 < 0) → vp_in r8 10) ∧ Z n0 xX2_namedIn (d + 1) rc rs 4 [(0, .ref (n0 + 8)), (1, .ref (n0 + a1)), (2, .int (if ((I a1 a3.toNatClampNeg) : Int32) < 10000 then (if r8 < 0 then a2 else (a2 ||| (I6 17 r8.toNatClampNeg))) else if ((I a1 a3.toNatClampNeg) : Int32) < 10008 then ((if r8 < 0 then a2 else (a2 ||| (I6 17 r8.toNatClampNeg))) ||| ((1 : Int32) <<< (((I a1 a3.toNatClampNeg) - 10000) &&& 31 : Int32))) else (if r8 < 0 then a2 else (a2 ||| (I6 17 r8.toNatClampNeg))))), (3, .int (a3 + 1))] [] K I6 L7 (z_q0 K Q)) else Q (some (.int a2)) I L)) : Z n0 xX2_namedIn (d + 1) rc rs 4 [(0, .ref (n0 + 8)), (1, .ref (n0 + a1)), (2, .int a2), (3, .int a3)] [] K I L (z_q0 K Q) := by
  refine z_iload_n 3 dX2_namedIn_4 rfl ?_
  refine z_aload_n 1 dX2_namedIn_5 rfl ?_
  obtain ⟨n1, o2, o3, h⟩ := h
  refine z_alen (t := 0) (Int32.ofNat n1) dX2_namedIn_6 o2 o3 rfl ?_
  refine z_icmp_ge 70 dX2_namedIn_7 (by decide) (fun g4 => ?_) (fun g4 => ?_)
  · rw [if_neg g4] at h
    refine z_iload_n 2 dX2_namedIn_70 rfl ?_
    exact z_iret dX2_namedIn_71 rfl ⟨rfl, h⟩
  · rw [if_pos g4] at h
    refine z_aload_n 1 dX2_namedIn_10 rfl ?_
    refine z_iload_n 3 dX2_namedIn_11 rfl ?_
    obtain ⟨o5, h⟩ := h
    refine z_iald (I a1 a3.toNatClampNeg) dX2_namedIn_12 o2 o3 o5 rfl ?_
    refine z_istore [1, 2, 3, 4, 0] [(0, .ref (n0 + 8)), (1, .ref (n0 + a1)), (2, .int a2), (3, .int a3), (4, .int (I a1 a3.toNatClampNeg))] dX2_namedIn_13 (by decide) rfl ?_
    refine z_iload 4 dX2_namedIn_15 rfl ?_
    refine z_callS0 (As := [.int (I a1 a3.toNatClampNeg)]) (st := []) dX2_namedIn_17 hy_X2_pointOf wg_786 wg_787 (Nat.le_refl _) (Nat.le_of_ble_eq_true rfl) (RM0.mono h ?_)
    clear h
    intro vv I6 L7 h
    obtain ⟨r8, rfl, h⟩ := h
    change Z n0 xX2_namedIn (d + 1) rc rs 20 [(0, .ref (n0 + 8)), (1, .ref (n0 + a1)), (2, .int a2), (3, .int a3), (4, .int (I a1 a3.toNatClampNeg))] [.int r8] K I6 L7 (z_q0 K Q)
    refine z_istore [1, 2, 3, 4, 5, 0] [(0, .ref (n0 + 8)), (1, .ref (n0 + a1)), (2, .int a2), (3, .int a3), (4, .int (I a1 a3.toNatClampNeg)), (5, .int r8)] dX2_namedIn_20 (by decide) rfl ?_
    refine z_iload 5 dX2_namedIn_22 rfl ?_
    obtain ⟨o10, h⟩ := h
    have key11 : Z n0 xX2_namedIn (d + 1) rc rs 37 [(0, .ref (n0 + 8)), (1, .ref (n0 + a1)), (2, .int (if r8 < 0 then a2 else (a2 ||| (I6 17 r8.toNatClampNeg)))), (3, .int a3), (4, .int (I a1 a3.toNatClampNeg))] [] K I6 L7 (z_q0 K Q) := by
      refine z_iload 4 dX2_namedIn_37 rfl ?_
      refine z_sipush 10000 dX2_namedIn_39 (by decide) ?_
      have key14 : Z n0 xX2_namedIn (d + 1) rc rs 64 [(0, .ref (n0 + 8)), (1, .ref (n0 + a1)), (2, .int (if ((I a1 a3.toNatClampNeg) : Int32) < 10000 then (if r8 < 0 then a2 else (a2 ||| (I6 17 r8.toNatClampNeg))) else if ((I a1 a3.toNatClampNeg) : Int32) < 10008 then ((if r8 < 0 then a2 else (a2 ||| (I6 17 r8.toNatClampNeg))) ||| ((1 : Int32) <<< (((I a1 a3.toNatClampNeg) - 10000) &&& 31 : Int32))) else (if r8 < 0 then a2 else (a2 ||| (I6 17 r8.toNatClampNeg))))), (3, .int a3)] [] K I6 L7 (z_q0 K Q) := by
        refine z_iinc (j := 3) (a3 + 1) [1, 2, 3, 0] [(0, .ref (n0 + 8)), (1, .ref (n0 + a1)), (2, .int (if ((I a1 a3.toNatClampNeg) : Int32) < 10000 then (if r8 < 0 then a2 else (a2 ||| (I6 17 r8.toNatClampNeg))) else if ((I a1 a3.toNatClampNeg) : Int32) < 10008 then ((if r8 < 0 then a2 else (a2 ||| (I6 17 r8.toNatClampNeg))) ||| ((1 : Int32) <<< (((I a1 a3.toNatClampNeg) - 10000) &&& 31 : Int32))) else (if r8 < 0 then a2 else (a2 ||| (I6 17 r8.toNatClampNeg))))), (3, .int (a3 + 1))] dX2_namedIn_64 rfl rfl (by decide) rfl ?_
        refine z_goto 4 dX2_namedIn_67 (by decide) ?_
        exact h
      refine z_icmp_lt 64 dX2_namedIn_42 (by decide) (fun g12 => ?_) (fun g12 => ?_)
      · have ee : ((if ((I a1 a3.toNatClampNeg) : Int32) < 10000 then (if r8 < 0 then a2 else (a2 ||| (I6 17 r8.toNatClampNeg))) else if ((I a1 a3.toNatClampNeg) : Int32) < 10008 then ((if r8 < 0 then a2 else (a2 ||| (I6 17 r8.toNatClampNeg))) ||| ((1 : Int32) <<< (((I a1 a3.toNatClampNeg) - 10000) &&& 31 : Int32))) else (if r8 < 0 then a2 else (a2 ||| (I6 17 r8.toNatClampNeg)))) : Int32) = (if r8 < 0 then a2 else (a2 ||| (I6 17 r8.toNatClampNeg))) := by rw [if_pos g12]
        rw [ee] at key14
        clear ee
        refine z_sub [0, 1, 2, 3] rfl ?_
        exact key14
      · refine z_iload 4 dX2_namedIn_45 rfl ?_
        refine z_sipush 10008 dX2_namedIn_47 (by decide) ?_
        refine z_icmp_ge 64 dX2_namedIn_50 (by decide) (fun g13 => ?_) (fun g13 => ?_)
        · have ee : ((if ((I a1 a3.toNatClampNeg) : Int32) < 10000 then (if r8 < 0 then a2 else (a2 ||| (I6 17 r8.toNatClampNeg))) else if ((I a1 a3.toNatClampNeg) : Int32) < 10008 then ((if r8 < 0 then a2 else (a2 ||| (I6 17 r8.toNatClampNeg))) ||| ((1 : Int32) <<< (((I a1 a3.toNatClampNeg) - 10000) &&& 31 : Int32))) else (if r8 < 0 then a2 else (a2 ||| (I6 17 r8.toNatClampNeg)))) : Int32) = (if r8 < 0 then a2 else (a2 ||| (I6 17 r8.toNatClampNeg))) := by rw [if_neg g12, if_neg g13]
          rw [ee] at key14
          clear ee
          refine z_sub [0, 1, 2, 3] rfl ?_
          exact key14
        · refine z_iload_n 2 dX2_namedIn_53 rfl ?_
          refine z_iconst 1 dX2_namedIn_54 (by decide) ?_
          refine z_iload 4 dX2_namedIn_55 rfl ?_
          refine z_sipush 10000 dX2_namedIn_57 (by decide) ?_
          refine z_isub dX2_namedIn_60 ?_
          refine z_ishl dX2_namedIn_61 ?_
          refine z_ior dX2_namedIn_62 ?_
          refine z_istore_n [1, 2, 0, 3, 4] [(0, .ref (n0 + 8)), (1, .ref (n0 + a1)), (2, .int ((if r8 < 0 then a2 else (a2 ||| (I6 17 r8.toNatClampNeg))) ||| ((1 : Int32) <<< (((I a1 a3.toNatClampNeg) - 10000) &&& 31 : Int32)))), (3, .int a3), (4, .int (I a1 a3.toNatClampNeg))] dX2_namedIn_63 (by decide) rfl ?_
          have ee : ((if ((I a1 a3.toNatClampNeg) : Int32) < 10000 then (if r8 < 0 then a2 else (a2 ||| (I6 17 r8.toNatClampNeg))) else if ((I a1 a3.toNatClampNeg) : Int32) < 10008 then ((if r8 < 0 then a2 else (a2 ||| (I6 17 r8.toNatClampNeg))) ||| ((1 : Int32) <<< (((I a1 a3.toNatClampNeg) - 10000) &&& 31 : Int32))) else (if r8 < 0 then a2 else (a2 ||| (I6 17 r8.toNatClampNeg)))) : Int32) = ((if r8 < 0 then a2 else (a2 ||| (I6 17 r8.toNatClampNeg))) ||| ((1 : Int32) <<< (((I a1 a3.toNatClampNeg) - 10000) &&& 31 : Int32))) := by rw [if_neg g12, if_pos g13]
          rw [ee] at key14
          clear ee
          refine z_sub [0, 1, 2, 3] rfl ?_
          exact key14
    refine z_if_lt 37 dX2_namedIn_24 (by decide) (fun g9 => ?_) (fun g9 => ?_)
    · have ee : ((if r8 < 0 then a2 else (a2 ||| (I6 17 r8.toNatClampNeg))) : Int32) = a2 := by rw [if_pos g9]
      rw [ee] at key11
      clear ee
      refine z_sub [0, 1, 2, 3, 4] rfl ?_
      exact key11
    · refine z_iload_n 2 dX2_namedIn_27 rfl ?_
      refine z_aload_n 0 dX2_namedIn_28 rfl ?_
      refine fg_2_40 (some 17) rfl dX2_namedIn_29 (co_8 hL).1 (co_8 hL).2 (ca_17 hL).1 ?_
      refine z_iload 5 dX2_namedIn_32 rfl ?_
      refine z_iald (I6 17 r8.toNatClampNeg) dX2_namedIn_34 (ca_17 hL).2.1 (ca_17 hL).2.2 (o10 g9) rfl ?_
      refine z_ior dX2_namedIn_35 ?_
      refine z_istore_n [1, 2, 0, 3, 4, 5] [(0, .ref (n0 + 8)), (1, .ref (n0 + a1)), (2, .int (a2 ||| (I6 17 r8.toNatClampNeg))), (3, .int a3), (4, .int (I a1 a3.toNatClampNeg)), (5, .int r8)] dX2_namedIn_36 (by decide) rfl ?_
      have ee : ((if r8 < 0 then a2 else (a2 ||| (I6 17 r8.toNatClampNeg))) : Int32) = (a2 ||| (I6 17 r8.toNatClampNeg)) := by rw [if_neg g9]
      rw [ee] at key11
      clear ee
      refine z_sub [0, 1, 2, 3, 4] rfl ?_
      exact key11
theorem dX2_pointOf_0 : decode cX2_pointOf 0 = .ok (.iload_n 0, 1) := by decide +kernel
theorem dX2_pointOf_1 : decode cX2_pointOf 1 = .ok (.sipush 10010, 3) := by decide +kernel
theorem dX2_pointOf_4 : decode cX2_pointOf 4 = .ok (.if_icmp .lt 16, 3) := by decide +kernel
theorem dX2_pointOf_7 : decode cX2_pointOf 7 = .ok (.iload_n 0, 1) := by decide +kernel
theorem dX2_pointOf_8 : decode cX2_pointOf 8 = .ok (.sipush 10020, 3) := by decide +kernel
theorem dX2_pointOf_11 : decode cX2_pointOf 11 = .ok (.if_icmp .ge 9, 3) := by decide +kernel
theorem dX2_pointOf_14 : decode cX2_pointOf 14 = .ok (.iload_n 0, 1) := by decide +kernel
theorem dX2_pointOf_15 : decode cX2_pointOf 15 = .ok (.sipush 10010, 3) := by decide +kernel
theorem dX2_pointOf_18 : decode cX2_pointOf 18 = .ok (.isub, 1) := by decide +kernel
theorem dX2_pointOf_19 : decode cX2_pointOf 19 = .ok (.ireturn, 1) := by decide +kernel
theorem dX2_pointOf_20 : decode cX2_pointOf 20 = .ok (.iload_n 0, 1) := by decide +kernel
theorem dX2_pointOf_21 : decode cX2_pointOf 21 = .ok (.sipush 10020, 3) := by decide +kernel
theorem dX2_pointOf_24 : decode cX2_pointOf 24 = .ok (.if_icmp .lt 18, 3) := by decide +kernel
theorem dX2_pointOf_27 : decode cX2_pointOf 27 = .ok (.iload_n 0, 1) := by decide +kernel
theorem dX2_pointOf_28 : decode cX2_pointOf 28 = .ok (.sipush 10030, 3) := by decide +kernel
theorem dX2_pointOf_31 : decode cX2_pointOf 31 = .ok (.if_icmp .ge 11, 3) := by decide +kernel
theorem dX2_pointOf_34 : decode cX2_pointOf 34 = .ok (.iload_n 0, 1) := by decide +kernel
theorem dX2_pointOf_35 : decode cX2_pointOf 35 = .ok (.sipush 10020, 3) := by decide +kernel
theorem dX2_pointOf_38 : decode cX2_pointOf 38 = .ok (.isub, 1) := by decide +kernel
theorem dX2_pointOf_39 : decode cX2_pointOf 39 = .ok (.goto 4, 3) := by decide +kernel
theorem dX2_pointOf_42 : decode cX2_pointOf 42 = .ok (.iconst (-1), 1) := by decide +kernel
theorem dX2_pointOf_43 : decode cX2_pointOf 43 = .ok (.ireturn, 1) := by decide +kernel
set_option maxRecDepth 100000 in
set_option maxHeartbeats 4000000 in
theorem wp_X2_pointOf {n0 d : Nat} {K : z_K} {I : z_I} {L : z_L} {Q : z_q} {p0 : Int32} (hL : CLay K) (h : (if p0 < 10010 then Q (some (.int (if p0 < 10020 then (-1) else if p0 < 10030 then (p0 - 10020) else (-1)))) I L else (if p0 < 10020 then Q (some (.int (p0 - 10010))) I L else Q (some (.int (if p0 < 10020 then (-1) else if p0 < 10030 then (p0 - 10020) else (-1)))) I L))) : RM0 n0 xX2_pointOf d [.int p0] K I L Q := by
  refine z_entry0 (by decide) (Nat.le_of_ble_eq_true rfl) ?_
  change Z n0 xX2_pointOf d 0 0 0 [(0, .int p0)] [] K I L (z_q0 K Q)
  refine z_iload_n 0 dX2_pointOf_0 rfl ?_
  refine z_sipush 10010 dX2_pointOf_1 (by decide) ?_
  refine z_icmp_lt 20 dX2_pointOf_4 (by decide) (fun g1 => ?_) (fun g1 => ?_)
  · rw [if_pos g1] at h
    refine z_iload_n 0 dX2_pointOf_20 rfl ?_
    refine z_sipush 10020 dX2_pointOf_21 (by decide) ?_
    have key4 : Z n0 xX2_pointOf d 0 0 43 [] [.int (if p0 < 10020 then (-1) else if p0 < 10030 then (p0 - 10020) else (-1))] K I L (z_q0 K Q) := by
      exact z_iret dX2_pointOf_43 rfl ⟨rfl, h⟩
    refine z_icmp_lt 42 dX2_pointOf_24 (by decide) (fun g2 => ?_) (fun g2 => ?_)
    · refine z_iconst (-1) dX2_pointOf_42 (by decide) ?_
      have ee : ((if p0 < 10020 then (-1) else if p0 < 10030 then (p0 - 10020) else (-1)) : Int32) = (-1) := by rw [if_pos g2]
      rw [ee] at key4
      clear ee
      refine z_sub [] rfl ?_
      exact key4
    · refine z_iload_n 0 dX2_pointOf_27 rfl ?_
      refine z_sipush 10030 dX2_pointOf_28 (by decide) ?_
      refine z_icmp_ge 42 dX2_pointOf_31 (by decide) (fun g3 => ?_) (fun g3 => ?_)
      · refine z_iconst (-1) dX2_pointOf_42 (by decide) ?_
        have ee : ((if p0 < 10020 then (-1) else if p0 < 10030 then (p0 - 10020) else (-1)) : Int32) = (-1) := by rw [if_neg g2, if_neg g3]
        rw [ee] at key4
        clear ee
        refine z_sub [] rfl ?_
        exact key4
      · refine z_iload_n 0 dX2_pointOf_34 rfl ?_
        refine z_sipush 10020 dX2_pointOf_35 (by decide) ?_
        refine z_isub dX2_pointOf_38 ?_
        refine z_goto 43 dX2_pointOf_39 (by decide) ?_
        have ee : ((if p0 < 10020 then (-1) else if p0 < 10030 then (p0 - 10020) else (-1)) : Int32) = (p0 - 10020) := by rw [if_neg g2, if_pos g3]
        rw [ee] at key4
        clear ee
        refine z_sub [] rfl ?_
        exact key4
  · rw [if_neg g1] at h
    refine z_iload_n 0 dX2_pointOf_7 rfl ?_
    refine z_sipush 10020 dX2_pointOf_8 (by decide) ?_
    refine z_icmp_ge 20 dX2_pointOf_11 (by decide) (fun g5 => ?_) (fun g5 => ?_)
    · rw [if_neg g5] at h
      refine z_iload_n 0 dX2_pointOf_20 rfl ?_
      refine z_sipush 10020 dX2_pointOf_21 (by decide) ?_
      have key8 : Z n0 xX2_pointOf d 0 0 43 [] [.int (if p0 < 10020 then (-1) else if p0 < 10030 then (p0 - 10020) else (-1))] K I L (z_q0 K Q) := by
        exact z_iret dX2_pointOf_43 rfl ⟨rfl, h⟩
      refine z_icmp_lt 42 dX2_pointOf_24 (by decide) (fun g6 => ?_) (fun g6 => ?_)
      · refine z_iconst (-1) dX2_pointOf_42 (by decide) ?_
        have ee : ((if p0 < 10020 then (-1) else if p0 < 10030 then (p0 - 10020) else (-1)) : Int32) = (-1) := by rw [if_pos g6]
        rw [ee] at key8
        clear ee
        refine z_sub [] rfl ?_
        exact key8
      · refine z_iload_n 0 dX2_pointOf_27 rfl ?_
        refine z_sipush 10030 dX2_pointOf_28 (by decide) ?_
        refine z_icmp_ge 42 dX2_pointOf_31 (by decide) (fun g7 => ?_) (fun g7 => ?_)
        · refine z_iconst (-1) dX2_pointOf_42 (by decide) ?_
          have ee : ((if p0 < 10020 then (-1) else if p0 < 10030 then (p0 - 10020) else (-1)) : Int32) = (-1) := by rw [if_neg g6, if_neg g7]
          rw [ee] at key8
          clear ee
          refine z_sub [] rfl ?_
          exact key8
        · refine z_iload_n 0 dX2_pointOf_34 rfl ?_
          refine z_sipush 10020 dX2_pointOf_35 (by decide) ?_
          refine z_isub dX2_pointOf_38 ?_
          refine z_goto 43 dX2_pointOf_39 (by decide) ?_
          have ee : ((if p0 < 10020 then (-1) else if p0 < 10030 then (p0 - 10020) else (-1)) : Int32) = (p0 - 10020) := by rw [if_neg g6, if_pos g7]
          rw [ee] at key8
          clear ee
          refine z_sub [] rfl ?_
          exact key8
    · rw [if_pos g5] at h
      refine z_iload_n 0 dX2_pointOf_14 rfl ?_
      refine z_sipush 10010 dX2_pointOf_15 (by decide) ?_
      refine z_isub dX2_pointOf_18 ?_
      exact z_iret dX2_pointOf_19 rfl ⟨rfl, h⟩
theorem dX2_trace_0 : decode cX2_trace 0 = .ok (.aload_n 0, 1) := by decide +kernel
theorem dX2_trace_1 : decode cX2_trace 1 = .ok (.iconst 0, 1) := by decide +kernel
theorem dX2_trace_2 : decode cX2_trace 2 = .ok (.putfield 157, 3) := by decide +kernel
theorem dX2_trace_5 : decode cX2_trace 5 = .ok (.iconst 0, 1) := by decide +kernel
theorem dX2_trace_6 : decode cX2_trace 6 = .ok (.istore_n 2, 1) := by decide +kernel
theorem dX2_trace_7 : decode cX2_trace 7 = .ok (.iload_n 2, 1) := by decide +kernel
theorem dX2_trace_8 : decode cX2_trace 8 = .ok (.aload_n 1, 1) := by decide +kernel
theorem dX2_trace_9 : decode cX2_trace 9 = .ok (.getfield 80, 3) := by decide +kernel
theorem dX2_trace_12 : decode cX2_trace 12 = .ok (.if_icmp .ge 148, 3) := by decide +kernel
theorem dX2_trace_15 : decode cX2_trace 15 = .ok (.aload_n 0, 1) := by decide +kernel
theorem dX2_trace_16 : decode cX2_trace 16 = .ok (.getfield 49, 3) := by decide +kernel
theorem dX2_trace_19 : decode cX2_trace 19 = .ok (.iload_n 2, 1) := by decide +kernel
theorem dX2_trace_20 : decode cX2_trace 20 = .ok (.aload_n 0, 1) := by decide +kernel
theorem dX2_trace_21 : decode cX2_trace 21 = .ok (.getfield 157, 3) := by decide +kernel
theorem dX2_trace_24 : decode cX2_trace 24 = .ok (.iastore, 1) := by decide +kernel
theorem dX2_trace_25 : decode cX2_trace 25 = .ok (.iload_n 2, 1) := by decide +kernel
theorem dX2_trace_26 : decode cX2_trace 26 = .ok (.iconst 1, 1) := by decide +kernel
theorem dX2_trace_27 : decode cX2_trace 27 = .ok (.iadd, 1) := by decide +kernel
theorem dX2_trace_28 : decode cX2_trace 28 = .ok (.aload_n 1, 1) := by decide +kernel
theorem dX2_trace_29 : decode cX2_trace 29 = .ok (.getfield 80, 3) := by decide +kernel
theorem dX2_trace_32 : decode cX2_trace 32 = .ok (.if_icmp .ge 9, 3) := by decide +kernel
theorem dX2_trace_35 : decode cX2_trace 35 = .ok (.iload_n 2, 1) := by decide +kernel
theorem dX2_trace_36 : decode cX2_trace 36 = .ok (.iconst 1, 1) := by decide +kernel
theorem dX2_trace_37 : decode cX2_trace 37 = .ok (.iadd, 1) := by decide +kernel
theorem dX2_trace_38 : decode cX2_trace 38 = .ok (.goto 4, 3) := by decide +kernel
theorem dX2_trace_41 : decode cX2_trace 41 = .ok (.iconst 0, 1) := by decide +kernel
theorem dX2_trace_42 : decode cX2_trace 42 = .ok (.istore_n 3, 1) := by decide +kernel
theorem dX2_trace_43 : decode cX2_trace 43 = .ok (.aload_n 1, 1) := by decide +kernel
theorem dX2_trace_44 : decode cX2_trace 44 = .ok (.getfield 160, 3) := by decide +kernel
theorem dX2_trace_47 : decode cX2_trace 47 = .ok (.iload_n 2, 1) := by decide +kernel
theorem dX2_trace_48 : decode cX2_trace 48 = .ok (.baload, 1) := by decide +kernel
theorem dX2_trace_49 : decode cX2_trace 49 = .ok (.ifCond .eq 8, 3) := by decide +kernel
theorem dX2_trace_52 : decode cX2_trace 52 = .ok (.bipush 8, 2) := by decide +kernel
theorem dX2_trace_54 : decode cX2_trace 54 = .ok (.goto 4, 3) := by decide +kernel
theorem dX2_trace_57 : decode cX2_trace 57 = .ok (.iconst 1, 1) := by decide +kernel
theorem dX2_trace_58 : decode cX2_trace 58 = .ok (.istore 4, 2) := by decide +kernel
theorem dX2_trace_60 : decode cX2_trace 60 = .ok (.iconst 0, 1) := by decide +kernel
theorem dX2_trace_61 : decode cX2_trace 61 = .ok (.istore 5, 2) := by decide +kernel
theorem dX2_trace_63 : decode cX2_trace 63 = .ok (.iload 5, 2) := by decide +kernel
theorem dX2_trace_65 : decode cX2_trace 65 = .ok (.iload 4, 2) := by decide +kernel
theorem dX2_trace_67 : decode cX2_trace 67 = .ok (.if_icmp .ge 87, 3) := by decide +kernel
theorem dX2_trace_70 : decode cX2_trace 70 = .ok (.aload_n 0, 1) := by decide +kernel
theorem dX2_trace_71 : decode cX2_trace 71 = .ok (.getfield 43, 3) := by decide +kernel
theorem dX2_trace_74 : decode cX2_trace 74 = .ok (.aload_n 0, 1) := by decide +kernel
theorem dX2_trace_75 : decode cX2_trace 75 = .ok (.getfield 157, 3) := by decide +kernel
theorem dX2_trace_78 : decode cX2_trace 78 = .ok (.iload 5, 2) := by decide +kernel
theorem dX2_trace_80 : decode cX2_trace 80 = .ok (.aload_n 0, 1) := by decide +kernel
theorem dX2_trace_81 : decode cX2_trace 81 = .ok (.aload_n 1, 1) := by decide +kernel
theorem dX2_trace_82 : decode cX2_trace 82 = .ok (.iload_n 2, 1) := by decide +kernel
theorem dX2_trace_83 : decode cX2_trace 83 = .ok (.iconst 0, 1) := by decide +kernel
theorem dX2_trace_84 : decode cX2_trace 84 = .ok (.invokevirtual 125, 3) := by decide +kernel
theorem dX2_trace_87 : decode cX2_trace 87 = .ok (.aload_n 0, 1) := by decide +kernel
theorem dX2_trace_88 : decode cX2_trace 88 = .ok (.aload_n 1, 1) := by decide +kernel
theorem dX2_trace_89 : decode cX2_trace 89 = .ok (.iload_n 3, 1) := by decide +kernel
theorem dX2_trace_90 : decode cX2_trace 90 = .ok (.iconst 0, 1) := by decide +kernel
theorem dX2_trace_91 : decode cX2_trace 91 = .ok (.invokevirtual 125, 3) := by decide +kernel
theorem dX2_trace_94 : decode cX2_trace 94 = .ok (.aload_n 1, 1) := by decide +kernel
theorem dX2_trace_95 : decode cX2_trace 95 = .ok (.getfield 164, 3) := by decide +kernel
theorem dX2_trace_98 : decode cX2_trace 98 = .ok (.iload_n 2, 1) := by decide +kernel
theorem dX2_trace_99 : decode cX2_trace 99 = .ok (.iaload, 1) := by decide +kernel
theorem dX2_trace_100 : decode cX2_trace 100 = .ok (.invokestatic 167, 3) := by decide +kernel
theorem dX2_trace_103 : decode cX2_trace 103 = .ok (.iastore, 1) := by decide +kernel
theorem dX2_trace_104 : decode cX2_trace 104 = .ok (.aload_n 0, 1) := by decide +kernel
theorem dX2_trace_105 : decode cX2_trace 105 = .ok (.getfield 46, 3) := by decide +kernel
theorem dX2_trace_108 : decode cX2_trace 108 = .ok (.aload_n 0, 1) := by decide +kernel
theorem dX2_trace_109 : decode cX2_trace 109 = .ok (.getfield 157, 3) := by decide +kernel
theorem dX2_trace_112 : decode cX2_trace 112 = .ok (.iload 5, 2) := by decide +kernel
theorem dX2_trace_114 : decode cX2_trace 114 = .ok (.aload_n 0, 1) := by decide +kernel
theorem dX2_trace_115 : decode cX2_trace 115 = .ok (.aload_n 1, 1) := by decide +kernel
theorem dX2_trace_116 : decode cX2_trace 116 = .ok (.iload_n 2, 1) := by decide +kernel
theorem dX2_trace_117 : decode cX2_trace 117 = .ok (.iconst 1, 1) := by decide +kernel
theorem dX2_trace_118 : decode cX2_trace 118 = .ok (.invokevirtual 125, 3) := by decide +kernel
theorem dX2_trace_121 : decode cX2_trace 121 = .ok (.aload_n 0, 1) := by decide +kernel
theorem dX2_trace_122 : decode cX2_trace 122 = .ok (.aload_n 1, 1) := by decide +kernel
theorem dX2_trace_123 : decode cX2_trace 123 = .ok (.iload_n 3, 1) := by decide +kernel
theorem dX2_trace_124 : decode cX2_trace 124 = .ok (.iconst 1, 1) := by decide +kernel
theorem dX2_trace_125 : decode cX2_trace 125 = .ok (.invokevirtual 125, 3) := by decide +kernel
theorem dX2_trace_128 : decode cX2_trace 128 = .ok (.aload_n 1, 1) := by decide +kernel
theorem dX2_trace_129 : decode cX2_trace 129 = .ok (.getfield 171, 3) := by decide +kernel
theorem dX2_trace_132 : decode cX2_trace 132 = .ok (.iload_n 2, 1) := by decide +kernel
theorem dX2_trace_133 : decode cX2_trace 133 = .ok (.iaload, 1) := by decide +kernel
theorem dX2_trace_134 : decode cX2_trace 134 = .ok (.invokestatic 167, 3) := by decide +kernel
theorem dX2_trace_137 : decode cX2_trace 137 = .ok (.iastore, 1) := by decide +kernel
theorem dX2_trace_138 : decode cX2_trace 138 = .ok (.aload_n 0, 1) := by decide +kernel
theorem dX2_trace_139 : decode cX2_trace 139 = .ok (.dup, 1) := by decide +kernel
theorem dX2_trace_140 : decode cX2_trace 140 = .ok (.getfield 157, 3) := by decide +kernel
theorem dX2_trace_143 : decode cX2_trace 143 = .ok (.iconst 1, 1) := by decide +kernel
theorem dX2_trace_144 : decode cX2_trace 144 = .ok (.iadd, 1) := by decide +kernel
theorem dX2_trace_145 : decode cX2_trace 145 = .ok (.putfield 157, 3) := by decide +kernel
theorem dX2_trace_148 : decode cX2_trace 148 = .ok (.iinc 5 1, 3) := by decide +kernel
theorem dX2_trace_151 : decode cX2_trace 151 = .ok (.goto (-88), 3) := by decide +kernel
theorem dX2_trace_154 : decode cX2_trace 154 = .ok (.iinc 2 1, 3) := by decide +kernel
theorem dX2_trace_157 : decode cX2_trace 157 = .ok (.goto (-150), 3) := by decide +kernel
theorem dX2_trace_160 : decode cX2_trace 160 = .ok (.return_, 1) := by decide +kernel
set_option maxRecDepth 100000 in
set_option maxHeartbeats 4000000 in
theorem wp_X2_trace {n0 d : Nat} {K : z_K} {I : z_I} {L : z_L} {Q : z_q} {p0 : Nat} (hL : CLay K) (h : Z n0 xX2_trace (d + 1) 0 0 7 [(0, .ref (n0 + 8)), (1, .ref (n0 + p0)), (2, .int 0)] [] K (zI I 8 15 0) L (z_q0 K Q)) : RM0 n0 xX2_trace (d + 1) [.ref (n0 + 8), .ref (n0 + p0)] K I L Q := by
  refine z_entry0 (by decide) (Nat.le_of_ble_eq_true rfl) ?_
  change Z n0 xX2_trace (d + 1) 0 0 0 [(0, .ref (n0 + 8)), (1, .ref (n0 + p0))] [] K I L (z_q0 K Q)
  refine z_aload_n 0 dX2_trace_0 rfl ?_
  refine z_iconst 0 dX2_trace_1 (by decide) ?_
  refine fp_2_157 rfl dX2_trace_2 (co_8 hL).1 (co_8 hL).2 ?_
  refine z_iconst 0 dX2_trace_5 (by decide) ?_
  refine z_istore_n [1, 2, 0] [(0, .ref (n0 + 8)), (1, .ref (n0 + p0)), (2, .int 0)] dX2_trace_6 (by decide) rfl ?_
  exact h
set_option maxRecDepth 100000 in
set_option maxHeartbeats 4000000 in
theorem wp_X2_trace_7 {n0 d : Nat} {rc rs : Nat} {K : z_K} {I : z_I} {L : z_L} {Q : z_q} {a1 : Nat} {a2 : Int32} (hL : CLay K) (h : a1 < K.1 ∧ (K.2.1 a1).1 = 5 ∧ (if a2 < (I a1 2) then vp_in a2 10 ∧ (∃ q7, K.2.2 a1 8 = some q7 ∧ ∃ n8, q7 < K.1 ∧ K.2.1 q7 = (21, n8) ∧ vp_in a2 n8 ∧ Z n0 xX2_trace (d + 1) rc rs 63 [(0, .ref (n0 + 8)), (1, .ref (n0 + a1)), (2, .int a2), (3, .int (if ((a2 + 1) : Int32) < ((zI I 20 a2.toNatClampNeg (I 8 15)) a1 2) then (a2 + 1) else 0)), (4, .int (if (((zI I 20 a2.toNatClampNeg (I 8 15)) q7 a2.toNatClampNeg) : Int32) = 0 then 1 else 8)), (5, .int 0)] [] K (zI I 20 a2.toNatClampNeg (I 8 15)) L (z_q0 K Q)) else Q none I L)) : Z n0 xX2_trace (d + 1) rc rs 7 [(0, .ref (n0 + 8)), (1, .ref (n0 + a1)), (2, .int a2)] [] K I L (z_q0 K Q) := by
  refine z_iload_n 2 dX2_trace_7 rfl ?_
  refine z_aload_n 1 dX2_trace_8 rfl ?_
  obtain ⟨o1, o2, h⟩ := h
  refine fg_2_80 (I a1 2) rfl dX2_trace_9 o1 o2 rfl ?_
  refine z_icmp_ge 160 dX2_trace_12 (by decide) (fun g3 => ?_) (fun g3 => ?_)
  · rw [if_neg g3] at h
    exact z_vret dX2_trace_160 rfl ⟨rfl, h⟩
  · rw [if_pos g3] at h
    refine z_aload_n 0 dX2_trace_15 rfl ?_
    refine fg_2_49 (some 20) rfl dX2_trace_16 (co_8 hL).1 (co_8 hL).2 (ca_20 hL).1 ?_
    refine z_iload_n 2 dX2_trace_19 rfl ?_
    refine z_aload_n 0 dX2_trace_20 rfl ?_
    refine fg_2_157 (I 8 15) rfl dX2_trace_21 (co_8 hL).1 (co_8 hL).2 rfl ?_
    obtain ⟨o4, h⟩ := h
    refine z_iast dX2_trace_24 (ca_20 hL).2.1 (ca_20 hL).2.2 o4 ?_
    refine z_iload_n 2 dX2_trace_25 rfl ?_
    refine z_iconst 1 dX2_trace_26 (by decide) ?_
    refine z_iadd dX2_trace_27 ?_
    refine z_aload_n 1 dX2_trace_28 rfl ?_
    refine fg_2_80 ((zI I 20 a2.toNatClampNeg (I 8 15)) a1 2) rfl dX2_trace_29 o1 o2 rfl ?_
    have key6 : Z n0 xX2_trace (d + 1) rc rs 42 [(0, .ref (n0 + 8)), (1, .ref (n0 + a1)), (2, .int a2)] [.int (if ((a2 + 1) : Int32) < ((zI I 20 a2.toNatClampNeg (I 8 15)) a1 2) then (a2 + 1) else 0)] K (zI I 20 a2.toNatClampNeg (I 8 15)) L (z_q0 K Q) := by
      refine z_istore_n [1, 2, 3, 0] [(0, .ref (n0 + 8)), (1, .ref (n0 + a1)), (2, .int a2), (3, .int (if ((a2 + 1) : Int32) < ((zI I 20 a2.toNatClampNeg (I 8 15)) a1 2) then (a2 + 1) else 0))] dX2_trace_42 (by decide) rfl ?_
      refine z_aload_n 1 dX2_trace_43 rfl ?_
      obtain ⟨q7, q7e, h⟩ := h
      refine fg_2_160 (some q7) rfl dX2_trace_44 o1 o2 q7e ?_
      refine z_iload_n 2 dX2_trace_47 rfl ?_
      obtain ⟨n8, o9, o10, o11, h⟩ := h
      refine z_zald ((zI I 20 a2.toNatClampNeg (I 8 15)) q7 a2.toNatClampNeg) dX2_trace_48 o9 o10 o11 rfl ?_
      have key13 : Z n0 xX2_trace (d + 1) rc rs 58 [(0, .ref (n0 + 8)), (1, .ref (n0 + a1)), (2, .int a2), (3, .int (if ((a2 + 1) : Int32) < ((zI I 20 a2.toNatClampNeg (I 8 15)) a1 2) then (a2 + 1) else 0))] [.int (if (((zI I 20 a2.toNatClampNeg (I 8 15)) q7 a2.toNatClampNeg) : Int32) = 0 then 1 else 8)] K (zI I 20 a2.toNatClampNeg (I 8 15)) L (z_q0 K Q) := by
        refine z_istore [1, 2, 3, 4, 0] [(0, .ref (n0 + 8)), (1, .ref (n0 + a1)), (2, .int a2), (3, .int (if ((a2 + 1) : Int32) < ((zI I 20 a2.toNatClampNeg (I 8 15)) a1 2) then (a2 + 1) else 0)), (4, .int (if (((zI I 20 a2.toNatClampNeg (I 8 15)) q7 a2.toNatClampNeg) : Int32) = 0 then 1 else 8))] dX2_trace_58 (by decide) rfl ?_
        refine z_iconst 0 dX2_trace_60 (by decide) ?_
        refine z_istore [1, 2, 3, 4, 5, 0] [(0, .ref (n0 + 8)), (1, .ref (n0 + a1)), (2, .int a2), (3, .int (if ((a2 + 1) : Int32) < ((zI I 20 a2.toNatClampNeg (I 8 15)) a1 2) then (a2 + 1) else 0)), (4, .int (if (((zI I 20 a2.toNatClampNeg (I 8 15)) q7 a2.toNatClampNeg) : Int32) = 0 then 1 else 8)), (5, .int 0)] dX2_trace_61 (by decide) rfl ?_
        exact h
      refine z_if_eq 57 dX2_trace_49 (by decide) (fun g12 => ?_) (fun g12 => ?_)
      · refine z_iconst 1 dX2_trace_57 (by decide) ?_
        have ee : ((if (((zI I 20 a2.toNatClampNeg (I 8 15)) q7 a2.toNatClampNeg) : Int32) = 0 then 1 else 8) : Int32) = 1 := by rw [if_pos g12]
        rw [ee] at key13
        clear ee
        exact key13
      · refine z_bipush 8 dX2_trace_52 (by decide) ?_
        refine z_goto 58 dX2_trace_54 (by decide) ?_
        have ee : ((if (((zI I 20 a2.toNatClampNeg (I 8 15)) q7 a2.toNatClampNeg) : Int32) = 0 then 1 else 8) : Int32) = 8 := by rw [if_neg g12]
        rw [ee] at key13
        clear ee
        exact key13
    refine z_icmp_ge 41 dX2_trace_32 (by decide) (fun g5 => ?_) (fun g5 => ?_)
    · refine z_iconst 0 dX2_trace_41 (by decide) ?_
      have ee : ((if ((a2 + 1) : Int32) < ((zI I 20 a2.toNatClampNeg (I 8 15)) a1 2) then (a2 + 1) else 0) : Int32) = 0 := by rw [if_neg g5]
      rw [ee] at key6
      clear ee
      exact key6
    · refine z_iload_n 2 dX2_trace_35 rfl ?_
      refine z_iconst 1 dX2_trace_36 (by decide) ?_
      refine z_iadd dX2_trace_37 ?_
      refine z_goto 42 dX2_trace_38 (by decide) ?_
      have ee : ((if ((a2 + 1) : Int32) < ((zI I 20 a2.toNatClampNeg (I 8 15)) a1 2) then (a2 + 1) else 0) : Int32) = (a2 + 1) := by rw [if_pos g5]
      rw [ee] at key6
      clear ee
      exact key6
set_option maxRecDepth 100000 in
set_option maxHeartbeats 4000000 in
theorem wp_X2_trace_63 {n0 d : Nat} {rc rs : Nat} {K : z_K} {I : z_I} {L : z_L} {Q : z_q} {a1 : Nat} {a2 : Int32} {a3 : Int32} {a4 : Int32} {a5 : Int32} (hL : CLay K) (h : (if a5 < a4 then RM0 n0 xX2_placeOf d [.ref (n0 + 8), .ref (n0 + a1), .int a2, .int 0] K I L (fun vv I2 L3 => ∃ r4 : Int32, vv = some (.int r4) ∧ RM0 n0 xX2_placeOf d [.ref (n0 + 8), .ref (n0 + a1), .int a3, .int 0] K I2 L3 (fun vv I5 L6 => ∃ r7 : Int32, vv = some (.int r7) ∧ a1 < K.1 ∧ (K.2.1 a1).1 = 5 ∧ (∃ q10, K.2.2 a1 9 = some q10 ∧ ∃ n11, q10 < K.1 ∧ K.2.1 q10 = (20, n11) ∧ vp_in a2 n11 ∧ RM0 n0 xX2_onLine d [.int a5, .int r4, .int r7, .int (I5 q10 a2.toNatClampNeg)] K I5 L6 (fun vv I15 L16 => ∃ r17 : Int32, vv = some (.int r17) ∧ vp_in (I 8 15) 80 ∧ RM0 n0 xX2_placeOf d [.ref (n0 + 8), .ref (n0 + a1), .int a2, .int 1] K (zI I15 18 ((I 8 15).toNatClampNeg) r17) L16 (fun vv I19 L20 => ∃ r21 : Int32, vv = some (.int r21) ∧ RM0 n0 xX2_placeOf d [.ref (n0 + 8), .ref (n0 + a1), .int a3, .int 1] K I19 L20 (fun vv I22 L23 => ∃ r24 : Int32, vv = some (.int r24) ∧ (∃ q25, K.2.2 a1 10 = some q25 ∧ ∃ n26, q25 < K.1 ∧ K.2.1 q25 = (20, n26) ∧ vp_in a2 n26 ∧ RM0 n0 xX2_onLine d [.int a5, .int r21, .int r24, .int (I22 q25 a2.toNatClampNeg)] K I22 L23 (fun vv I30 L31 => ∃ r32 : Int32, vv = some (.int r32) ∧ vp_in (I15 8 15) 80 ∧ Z n0 xX2_trace (d + 1) rc rs 63 [(0, .ref (n0 + 8)), (1, .ref (n0 + a1)), (2, .int a2), (3, .int a3), (4, .int a4), (5, .int (a5 + 1))] [] K (zI (zI I30 19 ((I15 8 15).toNatClampNeg) r32) 8 15 ((I30 8 15) + 1)) L31 (z_q0 K Q))))))))) else Z n0 xX2_trace (d + 1) rc rs 7 [(0, .ref (n0 + 8)), (1, .ref (n0 + a1)), (2, .int (a2 + 1))] [] K I L (z_q0 K Q))) : Z n0 xX2_trace (d + 1) rc rs 63 [(0, .ref (n0 + 8)), (1, .ref (n0 + a1)), (2, .int a2), (3, .int a3), (4, .int a4), (5, .int a5)] [] K I L (z_q0 K Q) := by
  refine z_iload 5 dX2_trace_63 rfl ?_
  refine z_iload 4 dX2_trace_65 rfl ?_
  refine z_icmp_ge 154 dX2_trace_67 (by decide) (fun g1 => ?_) (fun g1 => ?_)
  · rw [if_neg g1] at h
    refine z_iinc (j := 2) (a2 + 1) [1, 2, 0, 3, 4, 5] [(0, .ref (n0 + 8)), (1, .ref (n0 + a1)), (2, .int (a2 + 1)), (3, .int a3), (4, .int a4), (5, .int a5)] dX2_trace_154 rfl rfl (by decide) rfl ?_
    refine z_goto 7 dX2_trace_157 (by decide) ?_
    refine z_sub [0, 1, 2] rfl ?_
    exact h
  · rw [if_pos g1] at h
    refine z_aload_n 0 dX2_trace_70 rfl ?_
    refine fg_2_43 (some 18) rfl dX2_trace_71 (co_8 hL).1 (co_8 hL).2 (ca_18 hL).1 ?_
    refine z_aload_n 0 dX2_trace_74 rfl ?_
    refine fg_2_157 (I 8 15) rfl dX2_trace_75 (co_8 hL).1 (co_8 hL).2 rfl ?_
    refine z_iload 5 dX2_trace_78 rfl ?_
    refine z_aload_n 0 dX2_trace_80 rfl ?_
    refine z_aload_n 1 dX2_trace_81 rfl ?_
    refine z_iload_n 2 dX2_trace_82 rfl ?_
    refine z_iconst 0 dX2_trace_83 (by decide) ?_
    refine z_callV0 (As := [.ref (n0 + a1), .int a2, .int 0]) (st := [.int a5, .int (I 8 15), .ref (n0 + 18)]) dX2_trace_84 hy_X2_placeOf (co_8 hL).1 (co_8 hL).2 (by decide) wg_874 wg_875 wg_876 (Nat.le_refl _) (Nat.le_of_ble_eq_true rfl) (RM0.mono h ?_)
    clear h
    intro vv I2 L3 h
    obtain ⟨r4, rfl, h⟩ := h
    change Z n0 xX2_trace (d + 1) rc rs 87 [(0, .ref (n0 + 8)), (1, .ref (n0 + a1)), (2, .int a2), (3, .int a3), (4, .int a4), (5, .int a5)] [.int r4, .int a5, .int (I 8 15), .ref (n0 + 18)] K I2 L3 (z_q0 K Q)
    refine z_aload_n 0 dX2_trace_87 rfl ?_
    refine z_aload_n 1 dX2_trace_88 rfl ?_
    refine z_iload_n 3 dX2_trace_89 rfl ?_
    refine z_iconst 0 dX2_trace_90 (by decide) ?_
    refine z_callV0 (As := [.ref (n0 + a1), .int a3, .int 0]) (st := [.int r4, .int a5, .int (I 8 15), .ref (n0 + 18)]) dX2_trace_91 hy_X2_placeOf (co_8 hL).1 (co_8 hL).2 (by decide) wg_874 wg_875 wg_876 (Nat.le_refl _) (Nat.le_of_ble_eq_true rfl) (RM0.mono h ?_)
    clear h
    intro vv I5 L6 h
    obtain ⟨r7, rfl, h⟩ := h
    change Z n0 xX2_trace (d + 1) rc rs 94 [(0, .ref (n0 + 8)), (1, .ref (n0 + a1)), (2, .int a2), (3, .int a3), (4, .int a4), (5, .int a5)] [.int r7, .int r4, .int a5, .int (I 8 15), .ref (n0 + 18)] K I5 L6 (z_q0 K Q)
    refine z_aload_n 1 dX2_trace_94 rfl ?_
    obtain ⟨o8, o9, h⟩ := h
    obtain ⟨q10, q10e, h⟩ := h
    refine fg_2_164 (some q10) rfl dX2_trace_95 o8 o9 q10e ?_
    refine z_iload_n 2 dX2_trace_98 rfl ?_
    obtain ⟨n11, o12, o13, o14, h⟩ := h
    refine z_iald (I5 q10 a2.toNatClampNeg) dX2_trace_99 o12 o13 o14 rfl ?_
    refine z_callS0 (As := [.int a5, .int r4, .int r7, .int (I5 q10 a2.toNatClampNeg)]) (st := [.int (I 8 15), .ref (n0 + 18)]) dX2_trace_100 hy_X2_onLine wg_903 wg_904 (Nat.le_refl _) (Nat.le_of_ble_eq_true rfl) (RM0.mono h ?_)
    clear h
    intro vv I15 L16 h
    obtain ⟨r17, rfl, h⟩ := h
    change Z n0 xX2_trace (d + 1) rc rs 103 [(0, .ref (n0 + 8)), (1, .ref (n0 + a1)), (2, .int a2), (3, .int a3), (4, .int a4), (5, .int a5)] [.int r17, .int (I 8 15), .ref (n0 + 18)] K I15 L16 (z_q0 K Q)
    obtain ⟨o18, h⟩ := h
    refine z_iast dX2_trace_103 (ca_18 hL).2.1 (ca_18 hL).2.2 o18 ?_
    refine z_aload_n 0 dX2_trace_104 rfl ?_
    refine fg_2_46 (some 19) rfl dX2_trace_105 (co_8 hL).1 (co_8 hL).2 (ca_19 hL).1 ?_
    refine z_aload_n 0 dX2_trace_108 rfl ?_
    refine fg_2_157 (I15 8 15) rfl dX2_trace_109 (co_8 hL).1 (co_8 hL).2 rfl ?_
    refine z_iload 5 dX2_trace_112 rfl ?_
    refine z_aload_n 0 dX2_trace_114 rfl ?_
    refine z_aload_n 1 dX2_trace_115 rfl ?_
    refine z_iload_n 2 dX2_trace_116 rfl ?_
    refine z_iconst 1 dX2_trace_117 (by decide) ?_
    refine z_callV0 (As := [.ref (n0 + a1), .int a2, .int 1]) (st := [.int a5, .int (I15 8 15), .ref (n0 + 19)]) dX2_trace_118 hy_X2_placeOf (co_8 hL).1 (co_8 hL).2 (by decide) wg_874 wg_875 wg_876 (Nat.le_refl _) (Nat.le_of_ble_eq_true rfl) (RM0.mono h ?_)
    clear h
    intro vv I19 L20 h
    obtain ⟨r21, rfl, h⟩ := h
    change Z n0 xX2_trace (d + 1) rc rs 121 [(0, .ref (n0 + 8)), (1, .ref (n0 + a1)), (2, .int a2), (3, .int a3), (4, .int a4), (5, .int a5)] [.int r21, .int a5, .int (I15 8 15), .ref (n0 + 19)] K I19 L20 (z_q0 K Q)
    refine z_aload_n 0 dX2_trace_121 rfl ?_
    refine z_aload_n 1 dX2_trace_122 rfl ?_
    refine z_iload_n 3 dX2_trace_123 rfl ?_
    refine z_iconst 1 dX2_trace_124 (by decide) ?_
    refine z_callV0 (As := [.ref (n0 + a1), .int a3, .int 1]) (st := [.int r21, .int a5, .int (I15 8 15), .ref (n0 + 19)]) dX2_trace_125 hy_X2_placeOf (co_8 hL).1 (co_8 hL).2 (by decide) wg_874 wg_875 wg_876 (Nat.le_refl _) (Nat.le_of_ble_eq_true rfl) (RM0.mono h ?_)
    clear h
    intro vv I22 L23 h
    obtain ⟨r24, rfl, h⟩ := h
    change Z n0 xX2_trace (d + 1) rc rs 128 [(0, .ref (n0 + 8)), (1, .ref (n0 + a1)), (2, .int a2), (3, .int a3), (4, .int a4), (5, .int a5)] [.int r24, .int r21, .int a5, .int (I15 8 15), .ref (n0 + 19)] K I22 L23 (z_q0 K Q)
    refine z_aload_n 1 dX2_trace_128 rfl ?_
    obtain ⟨q25, q25e, h⟩ := h
    refine fg_2_171 (some q25) rfl dX2_trace_129 o8 o9 q25e ?_
    refine z_iload_n 2 dX2_trace_132 rfl ?_
    obtain ⟨n26, o27, o28, o29, h⟩ := h
    refine z_iald (I22 q25 a2.toNatClampNeg) dX2_trace_133 o27 o28 o29 rfl ?_
    refine z_callS0 (As := [.int a5, .int r21, .int r24, .int (I22 q25 a2.toNatClampNeg)]) (st := [.int (I15 8 15), .ref (n0 + 19)]) dX2_trace_134 hy_X2_onLine wg_903 wg_904 (Nat.le_refl _) (Nat.le_of_ble_eq_true rfl) (RM0.mono h ?_)
    clear h
    intro vv I30 L31 h
    obtain ⟨r32, rfl, h⟩ := h
    change Z n0 xX2_trace (d + 1) rc rs 137 [(0, .ref (n0 + 8)), (1, .ref (n0 + a1)), (2, .int a2), (3, .int a3), (4, .int a4), (5, .int a5)] [.int r32, .int (I15 8 15), .ref (n0 + 19)] K I30 L31 (z_q0 K Q)
    obtain ⟨o33, h⟩ := h
    refine z_iast dX2_trace_137 (ca_19 hL).2.1 (ca_19 hL).2.2 o33 ?_
    refine z_aload_n 0 dX2_trace_138 rfl ?_
    refine z_dup dX2_trace_139 rfl ?_
    refine fg_2_157 (I30 8 15) rfl dX2_trace_140 (co_8 hL).1 (co_8 hL).2 rfl ?_
    refine z_iconst 1 dX2_trace_143 (by decide) ?_
    refine z_iadd dX2_trace_144 ?_
    refine fp_2_157 rfl dX2_trace_145 (co_8 hL).1 (co_8 hL).2 ?_
    refine z_iinc (j := 5) (a5 + 1) [1, 2, 3, 4, 5, 0] [(0, .ref (n0 + 8)), (1, .ref (n0 + a1)), (2, .int a2), (3, .int a3), (4, .int a4), (5, .int (a5 + 1))] dX2_trace_148 rfl rfl (by decide) rfl ?_
    refine z_goto 63 dX2_trace_151 (by decide) ?_
    exact h
theorem dX2_onLine_0 : decode cX2_onLine 0 = .ok (.bipush 8, 2) := by decide +kernel
theorem dX2_onLine_2 : decode cX2_onLine 2 = .ok (.iload_n 0, 1) := by decide +kernel
theorem dX2_onLine_3 : decode cX2_onLine 3 = .ok (.isub, 1) := by decide +kernel
theorem dX2_onLine_4 : decode cX2_onLine 4 = .ok (.istore 4, 2) := by decide +kernel
theorem dX2_onLine_6 : decode cX2_onLine 6 = .ok (.iload_n 1, 1) := by decide +kernel
theorem dX2_onLine_7 : decode cX2_onLine 7 = .ok (.iload_n 2, 1) := by decide +kernel
theorem dX2_onLine_8 : decode cX2_onLine 8 = .ok (.iadd, 1) := by decide +kernel
theorem dX2_onLine_9 : decode cX2_onLine 9 = .ok (.iconst 2, 1) := by decide +kernel
theorem dX2_onLine_10 : decode cX2_onLine 10 = .ok (.invokestatic 174, 3) := by decide +kernel
theorem dX2_onLine_13 : decode cX2_onLine 13 = .ok (.iload_n 3, 1) := by decide +kernel
theorem dX2_onLine_14 : decode cX2_onLine 14 = .ok (.iadd, 1) := by decide +kernel
theorem dX2_onLine_15 : decode cX2_onLine 15 = .ok (.istore 5, 2) := by decide +kernel
theorem dX2_onLine_17 : decode cX2_onLine 17 = .ok (.iload 4, 2) := by decide +kernel
theorem dX2_onLine_19 : decode cX2_onLine 19 = .ok (.iload 4, 2) := by decide +kernel
theorem dX2_onLine_21 : decode cX2_onLine 21 = .ok (.imul, 1) := by decide +kernel
theorem dX2_onLine_22 : decode cX2_onLine 22 = .ok (.iload_n 1, 1) := by decide +kernel
theorem dX2_onLine_23 : decode cX2_onLine 23 = .ok (.imul, 1) := by decide +kernel
theorem dX2_onLine_24 : decode cX2_onLine 24 = .ok (.iconst 2, 1) := by decide +kernel
theorem dX2_onLine_25 : decode cX2_onLine 25 = .ok (.iload_n 0, 1) := by decide +kernel
theorem dX2_onLine_26 : decode cX2_onLine 26 = .ok (.imul, 1) := by decide +kernel
theorem dX2_onLine_27 : decode cX2_onLine 27 = .ok (.iload 4, 2) := by decide +kernel
theorem dX2_onLine_29 : decode cX2_onLine 29 = .ok (.imul, 1) := by decide +kernel
theorem dX2_onLine_30 : decode cX2_onLine 30 = .ok (.iload 5, 2) := by decide +kernel
theorem dX2_onLine_32 : decode cX2_onLine 32 = .ok (.imul, 1) := by decide +kernel
theorem dX2_onLine_33 : decode cX2_onLine 33 = .ok (.iadd, 1) := by decide +kernel
theorem dX2_onLine_34 : decode cX2_onLine 34 = .ok (.iload_n 0, 1) := by decide +kernel
theorem dX2_onLine_35 : decode cX2_onLine 35 = .ok (.iload_n 0, 1) := by decide +kernel
theorem dX2_onLine_36 : decode cX2_onLine 36 = .ok (.imul, 1) := by decide +kernel
theorem dX2_onLine_37 : decode cX2_onLine 37 = .ok (.iload_n 2, 1) := by decide +kernel
theorem dX2_onLine_38 : decode cX2_onLine 38 = .ok (.imul, 1) := by decide +kernel
theorem dX2_onLine_39 : decode cX2_onLine 39 = .ok (.iadd, 1) := by decide +kernel
theorem dX2_onLine_40 : decode cX2_onLine 40 = .ok (.bipush 64, 2) := by decide +kernel
theorem dX2_onLine_42 : decode cX2_onLine 42 = .ok (.invokestatic 174, 3) := by decide +kernel
theorem dX2_onLine_45 : decode cX2_onLine 45 = .ok (.ireturn, 1) := by decide +kernel
set_option maxRecDepth 100000 in
set_option maxHeartbeats 4000000 in
theorem wp_X2_onLine {n0 d : Nat} {K : z_K} {I : z_I} {L : z_L} {Q : z_q} {p0 : Int32} {p1 : Int32} {p2 : Int32} {p3 : Int32} (hL : CLay K) (h : RM0 n0 xJ9_floorDiv_7cf53 d [.int (p1 + p2), .int 2] K I L (fun vv I1 L2 => ∃ r3 : Int32, vv = some (.int r3) ∧ RM0 n0 xJ9_floorDiv_7cf53 d [.int (((((8 - p0) * (8 - p0)) * p1) + (((2 * p0) * (8 - p0)) * (r3 + p3))) + ((p0 * p0) * p2)), .int 64] K I1 L2 (fun vv I4 L5 => ∃ r6 : Int32, vv = some (.int r6) ∧ Q (some (.int r6)) I4 L5))) : RM0 n0 xX2_onLine (d + 1) [.int p0, .int p1, .int p2, .int p3] K I L Q := by
  refine z_entry0 (by decide) (Nat.le_of_ble_eq_true rfl) ?_
  change Z n0 xX2_onLine (d + 1) 0 0 0 [(0, .int p0), (1, .int p1), (2, .int p2), (3, .int p3)] [] K I L (z_q0 K Q)
  refine z_bipush 8 dX2_onLine_0 (by decide) ?_
  refine z_iload_n 0 dX2_onLine_2 rfl ?_
  refine z_isub dX2_onLine_3 ?_
  refine z_istore [1, 2, 3, 4, 0] [(0, .int p0), (1, .int p1), (2, .int p2), (3, .int p3), (4, .int (8 - p0))] dX2_onLine_4 (by decide) rfl ?_
  refine z_iload_n 1 dX2_onLine_6 rfl ?_
  refine z_iload_n 2 dX2_onLine_7 rfl ?_
  refine z_iadd dX2_onLine_8 ?_
  refine z_iconst 2 dX2_onLine_9 (by decide) ?_
  refine z_callS0 (As := [.int (p1 + p2), .int 2]) (st := []) dX2_onLine_10 hy_J9_floorDiv_7cf53 wg_906 wg_907 (Nat.le_refl _) (Nat.le_of_ble_eq_true rfl) (RM0.mono h ?_)
  clear h
  intro vv I1 L2 h
  obtain ⟨r3, rfl, h⟩ := h
  change Z n0 xX2_onLine (d + 1) 0 0 13 [(0, .int p0), (1, .int p1), (2, .int p2), (3, .int p3), (4, .int (8 - p0))] [.int r3] K I1 L2 (z_q0 K Q)
  refine z_iload_n 3 dX2_onLine_13 rfl ?_
  refine z_iadd dX2_onLine_14 ?_
  refine z_istore [1, 2, 3, 4, 5, 0] [(0, .int p0), (1, .int p1), (2, .int p2), (3, .int p3), (4, .int (8 - p0)), (5, .int (r3 + p3))] dX2_onLine_15 (by decide) rfl ?_
  refine z_iload 4 dX2_onLine_17 rfl ?_
  refine z_iload 4 dX2_onLine_19 rfl ?_
  refine z_imul dX2_onLine_21 ?_
  refine z_iload_n 1 dX2_onLine_22 rfl ?_
  refine z_imul dX2_onLine_23 ?_
  refine z_iconst 2 dX2_onLine_24 (by decide) ?_
  refine z_iload_n 0 dX2_onLine_25 rfl ?_
  refine z_imul dX2_onLine_26 ?_
  refine z_iload 4 dX2_onLine_27 rfl ?_
  refine z_imul dX2_onLine_29 ?_
  refine z_iload 5 dX2_onLine_30 rfl ?_
  refine z_imul dX2_onLine_32 ?_
  refine z_iadd dX2_onLine_33 ?_
  refine z_iload_n 0 dX2_onLine_34 rfl ?_
  refine z_iload_n 0 dX2_onLine_35 rfl ?_
  refine z_imul dX2_onLine_36 ?_
  refine z_iload_n 2 dX2_onLine_37 rfl ?_
  refine z_imul dX2_onLine_38 ?_
  refine z_iadd dX2_onLine_39 ?_
  refine z_bipush 64 dX2_onLine_40 (by decide) ?_
  refine z_callS0 (As := [.int (((((8 - p0) * (8 - p0)) * p1) + (((2 * p0) * (8 - p0)) * (r3 + p3))) + ((p0 * p0) * p2)), .int 64]) (st := []) dX2_onLine_42 hy_J9_floorDiv_7cf53 wg_906 wg_907 (Nat.le_refl _) (Nat.le_of_ble_eq_true rfl) (RM0.mono h ?_)
  clear h
  intro vv I4 L5 h
  obtain ⟨r6, rfl, h⟩ := h
  change Z n0 xX2_onLine (d + 1) 0 0 45 [(0, .int p0), (1, .int p1), (2, .int p2), (3, .int p3), (4, .int (8 - p0)), (5, .int (r3 + p3))] [.int r6] K I4 L5 (z_q0 K Q)
  exact z_iret dX2_onLine_45 rfl ⟨rfl, h⟩
theorem dX2_lengthOf_0 : decode cX2_lengthOf 0 = .ok (.aload_n 0, 1) := by decide +kernel
theorem dX2_lengthOf_1 : decode cX2_lengthOf 1 = .ok (.aload_n 1, 1) := by decide +kernel
theorem dX2_lengthOf_2 : decode cX2_lengthOf 2 = .ok (.invokevirtual 180, 3) := by decide +kernel
theorem dX2_lengthOf_5 : decode cX2_lengthOf 5 = .ok (.aload_n 0, 1) := by decide +kernel
theorem dX2_lengthOf_6 : decode cX2_lengthOf 6 = .ok (.getfield 49, 3) := by decide +kernel
theorem dX2_lengthOf_9 : decode cX2_lengthOf 9 = .ok (.iload_n 3, 1) := by decide +kernel
theorem dX2_lengthOf_10 : decode cX2_lengthOf 10 = .ok (.iaload, 1) := by decide +kernel
theorem dX2_lengthOf_11 : decode cX2_lengthOf 11 = .ok (.aload_n 0, 1) := by decide +kernel
theorem dX2_lengthOf_12 : decode cX2_lengthOf 12 = .ok (.getfield 49, 3) := by decide +kernel
theorem dX2_lengthOf_15 : decode cX2_lengthOf 15 = .ok (.iload_n 2, 1) := by decide +kernel
theorem dX2_lengthOf_16 : decode cX2_lengthOf 16 = .ok (.iaload, 1) := by decide +kernel
theorem dX2_lengthOf_17 : decode cX2_lengthOf 17 = .ok (.isub, 1) := by decide +kernel
theorem dX2_lengthOf_18 : decode cX2_lengthOf 18 = .ok (.istore 4, 2) := by decide +kernel
theorem dX2_lengthOf_20 : decode cX2_lengthOf 20 = .ok (.iload 4, 2) := by decide +kernel
theorem dX2_lengthOf_22 : decode cX2_lengthOf 22 = .ok (.ifCond .gt 12, 3) := by decide +kernel
theorem dX2_lengthOf_25 : decode cX2_lengthOf 25 = .ok (.iload 4, 2) := by decide +kernel
theorem dX2_lengthOf_27 : decode cX2_lengthOf 27 = .ok (.aload_n 0, 1) := by decide +kernel
theorem dX2_lengthOf_28 : decode cX2_lengthOf 28 = .ok (.getfield 157, 3) := by decide +kernel
theorem dX2_lengthOf_31 : decode cX2_lengthOf 31 = .ok (.iadd, 1) := by decide +kernel
theorem dX2_lengthOf_32 : decode cX2_lengthOf 32 = .ok (.istore 4, 2) := by decide +kernel
theorem dX2_lengthOf_34 : decode cX2_lengthOf 34 = .ok (.lconst 0, 1) := by decide +kernel
theorem dX2_lengthOf_35 : decode cX2_lengthOf 35 = .ok (.lstore 5, 2) := by decide +kernel
theorem dX2_lengthOf_37 : decode cX2_lengthOf 37 = .ok (.aload_n 0, 1) := by decide +kernel
theorem dX2_lengthOf_38 : decode cX2_lengthOf 38 = .ok (.getfield 49, 3) := by decide +kernel
theorem dX2_lengthOf_41 : decode cX2_lengthOf 41 = .ok (.iload_n 2, 1) := by decide +kernel
theorem dX2_lengthOf_42 : decode cX2_lengthOf 42 = .ok (.iaload, 1) := by decide +kernel
theorem dX2_lengthOf_43 : decode cX2_lengthOf 43 = .ok (.istore 7, 2) := by decide +kernel
theorem dX2_lengthOf_45 : decode cX2_lengthOf 45 = .ok (.iconst 0, 1) := by decide +kernel
theorem dX2_lengthOf_46 : decode cX2_lengthOf 46 = .ok (.istore 8, 2) := by decide +kernel
theorem dX2_lengthOf_48 : decode cX2_lengthOf 48 = .ok (.iload 8, 2) := by decide +kernel
theorem dX2_lengthOf_50 : decode cX2_lengthOf 50 = .ok (.iload 4, 2) := by decide +kernel
theorem dX2_lengthOf_52 : decode cX2_lengthOf 52 = .ok (.if_icmp .ge 89, 3) := by decide +kernel
theorem dX2_lengthOf_55 : decode cX2_lengthOf 55 = .ok (.iload 7, 2) := by decide +kernel
theorem dX2_lengthOf_57 : decode cX2_lengthOf 57 = .ok (.iconst 1, 1) := by decide +kernel
theorem dX2_lengthOf_58 : decode cX2_lengthOf 58 = .ok (.iadd, 1) := by decide +kernel
theorem dX2_lengthOf_59 : decode cX2_lengthOf 59 = .ok (.aload_n 0, 1) := by decide +kernel
theorem dX2_lengthOf_60 : decode cX2_lengthOf 60 = .ok (.getfield 157, 3) := by decide +kernel
theorem dX2_lengthOf_63 : decode cX2_lengthOf 63 = .ok (.if_icmp .ge 10, 3) := by decide +kernel
theorem dX2_lengthOf_66 : decode cX2_lengthOf 66 = .ok (.iload 7, 2) := by decide +kernel
theorem dX2_lengthOf_68 : decode cX2_lengthOf 68 = .ok (.iconst 1, 1) := by decide +kernel
theorem dX2_lengthOf_69 : decode cX2_lengthOf 69 = .ok (.iadd, 1) := by decide +kernel
theorem dX2_lengthOf_70 : decode cX2_lengthOf 70 = .ok (.goto 4, 3) := by decide +kernel
theorem dX2_lengthOf_73 : decode cX2_lengthOf 73 = .ok (.iconst 0, 1) := by decide +kernel
theorem dX2_lengthOf_74 : decode cX2_lengthOf 74 = .ok (.istore 9, 2) := by decide +kernel
theorem dX2_lengthOf_76 : decode cX2_lengthOf 76 = .ok (.aload_n 0, 1) := by decide +kernel
theorem dX2_lengthOf_77 : decode cX2_lengthOf 77 = .ok (.getfield 43, 3) := by decide +kernel
theorem dX2_lengthOf_80 : decode cX2_lengthOf 80 = .ok (.iload 9, 2) := by decide +kernel
theorem dX2_lengthOf_82 : decode cX2_lengthOf 82 = .ok (.iaload, 1) := by decide +kernel
theorem dX2_lengthOf_83 : decode cX2_lengthOf 83 = .ok (.aload_n 0, 1) := by decide +kernel
theorem dX2_lengthOf_84 : decode cX2_lengthOf 84 = .ok (.getfield 43, 3) := by decide +kernel
theorem dX2_lengthOf_87 : decode cX2_lengthOf 87 = .ok (.iload 7, 2) := by decide +kernel
theorem dX2_lengthOf_89 : decode cX2_lengthOf 89 = .ok (.iaload, 1) := by decide +kernel
theorem dX2_lengthOf_90 : decode cX2_lengthOf 90 = .ok (.isub, 1) := by decide +kernel
theorem dX2_lengthOf_91 : decode cX2_lengthOf 91 = .ok (.i2l, 1) := by decide +kernel
theorem dX2_lengthOf_92 : decode cX2_lengthOf 92 = .ok (.lstore 10, 2) := by decide +kernel
theorem dX2_lengthOf_94 : decode cX2_lengthOf 94 = .ok (.aload_n 0, 1) := by decide +kernel
theorem dX2_lengthOf_95 : decode cX2_lengthOf 95 = .ok (.getfield 46, 3) := by decide +kernel
theorem dX2_lengthOf_98 : decode cX2_lengthOf 98 = .ok (.iload 9, 2) := by decide +kernel
theorem dX2_lengthOf_100 : decode cX2_lengthOf 100 = .ok (.iaload, 1) := by decide +kernel
theorem dX2_lengthOf_101 : decode cX2_lengthOf 101 = .ok (.aload_n 0, 1) := by decide +kernel
theorem dX2_lengthOf_102 : decode cX2_lengthOf 102 = .ok (.getfield 46, 3) := by decide +kernel
theorem dX2_lengthOf_105 : decode cX2_lengthOf 105 = .ok (.iload 7, 2) := by decide +kernel
theorem dX2_lengthOf_107 : decode cX2_lengthOf 107 = .ok (.iaload, 1) := by decide +kernel
theorem dX2_lengthOf_108 : decode cX2_lengthOf 108 = .ok (.isub, 1) := by decide +kernel
theorem dX2_lengthOf_109 : decode cX2_lengthOf 109 = .ok (.i2l, 1) := by decide +kernel
theorem dX2_lengthOf_110 : decode cX2_lengthOf 110 = .ok (.lstore 12, 2) := by decide +kernel
theorem dX2_lengthOf_112 : decode cX2_lengthOf 112 = .ok (.lload 5, 2) := by decide +kernel
theorem dX2_lengthOf_114 : decode cX2_lengthOf 114 = .ok (.lload 10, 2) := by decide +kernel
theorem dX2_lengthOf_116 : decode cX2_lengthOf 116 = .ok (.lload 10, 2) := by decide +kernel
theorem dX2_lengthOf_118 : decode cX2_lengthOf 118 = .ok (.lmul, 1) := by decide +kernel
theorem dX2_lengthOf_119 : decode cX2_lengthOf 119 = .ok (.lload 12, 2) := by decide +kernel
theorem dX2_lengthOf_121 : decode cX2_lengthOf 121 = .ok (.lload 12, 2) := by decide +kernel
theorem dX2_lengthOf_123 : decode cX2_lengthOf 123 = .ok (.lmul, 1) := by decide +kernel
theorem dX2_lengthOf_124 : decode cX2_lengthOf 124 = .ok (.ladd, 1) := by decide +kernel
theorem dX2_lengthOf_125 : decode cX2_lengthOf 125 = .ok (.invokestatic 133, 3) := by decide +kernel
theorem dX2_lengthOf_128 : decode cX2_lengthOf 128 = .ok (.ladd, 1) := by decide +kernel
theorem dX2_lengthOf_129 : decode cX2_lengthOf 129 = .ok (.lstore 5, 2) := by decide +kernel
theorem dX2_lengthOf_131 : decode cX2_lengthOf 131 = .ok (.iload 9, 2) := by decide +kernel
theorem dX2_lengthOf_133 : decode cX2_lengthOf 133 = .ok (.istore 7, 2) := by decide +kernel
theorem dX2_lengthOf_135 : decode cX2_lengthOf 135 = .ok (.iinc 8 1, 3) := by decide +kernel
theorem dX2_lengthOf_138 : decode cX2_lengthOf 138 = .ok (.goto (-90), 3) := by decide +kernel
theorem dX2_lengthOf_141 : decode cX2_lengthOf 141 = .ok (.lload 5, 2) := by decide +kernel
theorem dX2_lengthOf_143 : decode cX2_lengthOf 143 = .ok (.l2i, 1) := by decide +kernel
theorem dX2_lengthOf_144 : decode cX2_lengthOf 144 = .ok (.ireturn, 1) := by decide +kernel
set_option maxRecDepth 100000 in
set_option maxHeartbeats 4000000 in
theorem wp_X2_lengthOf {n0 d : Nat} {K : z_K} {I : z_I} {L : z_L} {Q : z_q} {p0 : Nat} {p1 : Int32} {p2 : Int32} (hL : CLay K) (h : RM0 n0 xX2_trace d [.ref (n0 + 8), .ref (n0 + p0)] K I L (fun vv I1 L2 => vv = none ∧ vp_in p2 10 ∧ vp_in p1 10 ∧ Z n0 xX2_lengthOf (d + 1) 0 0 48 [(0, .ref (n0 + 8)), (4, .int (if 0 < (((I1 20 p2.toNatClampNeg) - (I1 20 p1.toNatClampNeg)) : Int32) then ((I1 20 p2.toNatClampNeg) - (I1 20 p1.toNatClampNeg)) else (((I1 20 p2.toNatClampNeg) - (I1 20 p1.toNatClampNeg)) + (I1 8 15)))), (5, .long 0), (7, .int (I1 20 p1.toNatClampNeg)), (8, .int 0)] [] K I1 L2 (z_q0 K Q))) : RM0 n0 xX2_lengthOf (d + 1) [.ref (n0 + 8), .ref (n0 + p0), .int p1, .int p2] K I L Q := by
  refine z_entry0 (by decide) (Nat.le_of_ble_eq_true rfl) ?_
  change Z n0 xX2_lengthOf (d + 1) 0 0 0 [(0, .ref (n0 + 8)), (1, .ref (n0 + p0)), (2, .int p1), (3, .int p2)] [] K I L (z_q0 K Q)
  refine z_aload_n 0 dX2_lengthOf_0 rfl ?_
  refine z_aload_n 1 dX2_lengthOf_1 rfl ?_
  refine z_callV0 (As := [.ref (n0 + p0)]) (st := []) dX2_lengthOf_2 hy_X2_trace (co_8 hL).1 (co_8 hL).2 (by decide) wg_899 wg_900 wg_901 (Nat.le_refl _) (Nat.le_of_ble_eq_true rfl) (RM0.mono h ?_)
  clear h
  intro vv I1 L2 h
  obtain ⟨rfl, h⟩ := h
  change Z n0 xX2_lengthOf (d + 1) 0 0 5 [(0, .ref (n0 + 8)), (1, .ref (n0 + p0)), (2, .int p1), (3, .int p2)] [] K I1 L2 (z_q0 K Q)
  refine z_aload_n 0 dX2_lengthOf_5 rfl ?_
  refine fg_2_49 (some 20) rfl dX2_lengthOf_6 (co_8 hL).1 (co_8 hL).2 (ca_20 hL).1 ?_
  refine z_iload_n 3 dX2_lengthOf_9 rfl ?_
  obtain ⟨o3, h⟩ := h
  refine z_iald (I1 20 p2.toNatClampNeg) dX2_lengthOf_10 (ca_20 hL).2.1 (ca_20 hL).2.2 o3 rfl ?_
  refine z_aload_n 0 dX2_lengthOf_11 rfl ?_
  refine fg_2_49 (some 20) rfl dX2_lengthOf_12 (co_8 hL).1 (co_8 hL).2 (ca_20 hL).1 ?_
  refine z_iload_n 2 dX2_lengthOf_15 rfl ?_
  obtain ⟨o4, h⟩ := h
  refine z_iald (I1 20 p1.toNatClampNeg) dX2_lengthOf_16 (ca_20 hL).2.1 (ca_20 hL).2.2 o4 rfl ?_
  refine z_isub dX2_lengthOf_17 ?_
  refine z_istore [1, 2, 3, 4, 0] [(0, .ref (n0 + 8)), (1, .ref (n0 + p0)), (2, .int p1), (3, .int p2), (4, .int ((I1 20 p2.toNatClampNeg) - (I1 20 p1.toNatClampNeg)))] dX2_lengthOf_18 (by decide) rfl ?_
  refine z_iload 4 dX2_lengthOf_20 rfl ?_
  have key6 : Z n0 xX2_lengthOf (d + 1) 0 0 34 [(0, .ref (n0 + 8)), (2, .int p1), (4, .int (if 0 < (((I1 20 p2.toNatClampNeg) - (I1 20 p1.toNatClampNeg)) : Int32) then ((I1 20 p2.toNatClampNeg) - (I1 20 p1.toNatClampNeg)) else (((I1 20 p2.toNatClampNeg) - (I1 20 p1.toNatClampNeg)) + (I1 8 15))))] [] K I1 L2 (z_q0 K Q) := by
    refine z_lconst 0 dX2_lengthOf_34 (by decide) ?_
    refine z_lstore [1, 2, 3, 0] [(0, .ref (n0 + 8)), (2, .int p1), (4, .int (if 0 < (((I1 20 p2.toNatClampNeg) - (I1 20 p1.toNatClampNeg)) : Int32) then ((I1 20 p2.toNatClampNeg) - (I1 20 p1.toNatClampNeg)) else (((I1 20 p2.toNatClampNeg) - (I1 20 p1.toNatClampNeg)) + (I1 8 15)))), (5, .long 0)] dX2_lengthOf_35 (by decide) rfl ?_
    refine z_aload_n 0 dX2_lengthOf_37 rfl ?_
    refine fg_2_49 (some 20) rfl dX2_lengthOf_38 (co_8 hL).1 (co_8 hL).2 (ca_20 hL).1 ?_
    refine z_iload_n 1 dX2_lengthOf_41 rfl ?_
    refine z_iald (I1 20 p1.toNatClampNeg) dX2_lengthOf_42 (ca_20 hL).2.1 (ca_20 hL).2.2 o4 rfl ?_
    refine z_istore [1, 2, 3, 4, 0] [(0, .ref (n0 + 8)), (2, .int p1), (4, .int (if 0 < (((I1 20 p2.toNatClampNeg) - (I1 20 p1.toNatClampNeg)) : Int32) then ((I1 20 p2.toNatClampNeg) - (I1 20 p1.toNatClampNeg)) else (((I1 20 p2.toNatClampNeg) - (I1 20 p1.toNatClampNeg)) + (I1 8 15)))), (5, .long 0), (7, .int (I1 20 p1.toNatClampNeg))] dX2_lengthOf_43 (by decide) rfl ?_
    refine z_iconst 0 dX2_lengthOf_45 (by decide) ?_
    refine z_istore [1, 2, 3, 4, 5, 0] [(0, .ref (n0 + 8)), (2, .int p1), (4, .int (if 0 < (((I1 20 p2.toNatClampNeg) - (I1 20 p1.toNatClampNeg)) : Int32) then ((I1 20 p2.toNatClampNeg) - (I1 20 p1.toNatClampNeg)) else (((I1 20 p2.toNatClampNeg) - (I1 20 p1.toNatClampNeg)) + (I1 8 15)))), (5, .long 0), (7, .int (I1 20 p1.toNatClampNeg)), (8, .int 0)] dX2_lengthOf_46 (by decide) rfl ?_
    refine z_sub [0, 2, 3, 4, 5] rfl ?_
    exact h
  refine z_if_gt 34 dX2_lengthOf_22 (by decide) (fun g5 => ?_) (fun g5 => ?_)
  · have ee : ((if 0 < (((I1 20 p2.toNatClampNeg) - (I1 20 p1.toNatClampNeg)) : Int32) then ((I1 20 p2.toNatClampNeg) - (I1 20 p1.toNatClampNeg)) else (((I1 20 p2.toNatClampNeg) - (I1 20 p1.toNatClampNeg)) + (I1 8 15))) : Int32) = ((I1 20 p2.toNatClampNeg) - (I1 20 p1.toNatClampNeg)) := by rw [if_pos g5]
    rw [ee] at key6
    clear ee
    refine z_sub [0, 2, 4] rfl ?_
    exact key6
  · refine z_iload 4 dX2_lengthOf_25 rfl ?_
    refine z_aload_n 0 dX2_lengthOf_27 rfl ?_
    refine fg_2_157 (I1 8 15) rfl dX2_lengthOf_28 (co_8 hL).1 (co_8 hL).2 rfl ?_
    refine z_iadd dX2_lengthOf_31 ?_
    refine z_istore [1, 2, 3, 4, 0] [(0, .ref (n0 + 8)), (1, .ref (n0 + p0)), (2, .int p1), (3, .int p2), (4, .int (((I1 20 p2.toNatClampNeg) - (I1 20 p1.toNatClampNeg)) + (I1 8 15)))] dX2_lengthOf_32 (by decide) rfl ?_
    have ee : ((if 0 < (((I1 20 p2.toNatClampNeg) - (I1 20 p1.toNatClampNeg)) : Int32) then ((I1 20 p2.toNatClampNeg) - (I1 20 p1.toNatClampNeg)) else (((I1 20 p2.toNatClampNeg) - (I1 20 p1.toNatClampNeg)) + (I1 8 15))) : Int32) = (((I1 20 p2.toNatClampNeg) - (I1 20 p1.toNatClampNeg)) + (I1 8 15)) := by rw [if_neg g5]
    rw [ee] at key6
    clear ee
    refine z_sub [0, 2, 4] rfl ?_
    exact key6
set_option maxRecDepth 100000 in
set_option maxHeartbeats 4000000 in
theorem wp_X2_lengthOf_48 {n0 d : Nat} {rc rs : Nat} {K : z_K} {I : z_I} {L : z_L} {Q : z_q} {a4 : Int32} {a5 : Int64} {a7 : Int32} {a8 : Int32} (hL : CLay K) (h : (if a8 < a4 then vp_in (if ((a7 + 1) : Int32) < (I 8 15) then (a7 + 1) else 0) 80 ∧ vp_in a7 80 ∧ RM0 n0 xX12_rootOf d [.long ((((((I 18 ((if ((a7 + 1) : Int32) < (I 8 15) then (a7 + 1) else 0).toNatClampNeg)) - (I 18 a7.toNatClampNeg)) : Int32).toInt64) * ((((I 18 ((if ((a7 + 1) : Int32) < (I 8 15) then (a7 + 1) else 0).toNatClampNeg)) - (I 18 a7.toNatClampNeg)) : Int32).toInt64)) + (((((I 19 ((if ((a7 + 1) : Int32) < (I 8 15) then (a7 + 1) else 0).toNatClampNeg)) - (I 19 a7.toNatClampNeg)) : Int32).toInt64) * ((((I 19 ((if ((a7 + 1) : Int32) < (I 8 15) then (a7 + 1) else 0).toNatClampNeg)) - (I 19 a7.toNatClampNeg)) : Int32).toInt64)))] K I L (fun vv I6 L7 => ∃ r8 : Int64, vv = some (.long r8) ∧ Z n0 xX2_lengthOf (d + 1) rc rs 48 [(0, .ref (n0 + 8)), (4, .int a4), (5, .long (a5 + r8)), (7, .int (if ((a7 + 1) : Int32) < (I 8 15) then (a7 + 1) else 0)), (8, .int (a8 + 1))] [] K I6 L7 (z_q0 K Q)) else Q (some (.int a5.toInt32)) I L)) : Z n0 xX2_lengthOf (d + 1) rc rs 48 [(0, .ref (n0 + 8)), (4, .int a4), (5, .long a5), (7, .int a7), (8, .int a8)] [] K I L (z_q0 K Q) := by
  refine z_iload 4 dX2_lengthOf_48 rfl ?_
  refine z_iload 1 dX2_lengthOf_50 rfl ?_
  refine z_icmp_ge 141 dX2_lengthOf_52 (by decide) (fun g1 => ?_) (fun g1 => ?_)
  · rw [if_neg g1] at h
    refine z_lload 2 dX2_lengthOf_141 rfl ?_
    refine z_l2i dX2_lengthOf_143 ?_
    exact z_iret dX2_lengthOf_144 rfl ⟨rfl, h⟩
  · rw [if_pos g1] at h
    refine z_iload 3 dX2_lengthOf_55 rfl ?_
    refine z_iconst 1 dX2_lengthOf_57 (by decide) ?_
    refine z_iadd dX2_lengthOf_58 ?_
    refine z_aload_n 0 dX2_lengthOf_59 rfl ?_
    refine fg_2_157 (I 8 15) rfl dX2_lengthOf_60 (co_8 hL).1 (co_8 hL).2 rfl ?_
    have key3 : Z n0 xX2_lengthOf (d + 1) rc rs 74 [(0, .ref (n0 + 8)), (4, .int a4), (5, .long a5), (7, .int a7), (8, .int a8)] [.int (if ((a7 + 1) : Int32) < (I 8 15) then (a7 + 1) else 0)] K I L (z_q0 K Q) := by
      refine z_istore [1, 2, 3, 4, 5, 0] [(0, .ref (n0 + 8)), (4, .int a4), (5, .long a5), (7, .int a7), (8, .int a8), (9, .int (if ((a7 + 1) : Int32) < (I 8 15) then (a7 + 1) else 0))] dX2_lengthOf_74 (by decide) rfl ?_
      refine z_aload_n 0 dX2_lengthOf_76 rfl ?_
      refine fg_2_43 (some 18) rfl dX2_lengthOf_77 (co_8 hL).1 (co_8 hL).2 (ca_18 hL).1 ?_
      refine z_iload 5 dX2_lengthOf_80 rfl ?_
      obtain ⟨o4, h⟩ := h
      refine z_iald (I 18 ((if ((a7 + 1) : Int32) < (I 8 15) then (a7 + 1) else 0).toNatClampNeg)) dX2_lengthOf_82 (ca_18 hL).2.1 (ca_18 hL).2.2 o4 rfl ?_
      refine z_aload_n 0 dX2_lengthOf_83 rfl ?_
      refine fg_2_43 (some 18) rfl dX2_lengthOf_84 (co_8 hL).1 (co_8 hL).2 (ca_18 hL).1 ?_
      refine z_iload 3 dX2_lengthOf_87 rfl ?_
      obtain ⟨o5, h⟩ := h
      refine z_iald (I 18 a7.toNatClampNeg) dX2_lengthOf_89 (ca_18 hL).2.1 (ca_18 hL).2.2 o5 rfl ?_
      refine z_isub dX2_lengthOf_90 ?_
      refine z_i2l dX2_lengthOf_91 ?_
      refine z_lstore [1, 2, 3, 4, 5, 6, 0] [(0, .ref (n0 + 8)), (4, .int a4), (5, .long a5), (7, .int a7), (8, .int a8), (9, .int (if ((a7 + 1) : Int32) < (I 8 15) then (a7 + 1) else 0)), (10, .long ((((I 18 ((if ((a7 + 1) : Int32) < (I 8 15) then (a7 + 1) else 0).toNatClampNeg)) - (I 18 a7.toNatClampNeg)) : Int32).toInt64))] dX2_lengthOf_92 (by decide) rfl ?_
      refine z_aload_n 0 dX2_lengthOf_94 rfl ?_
      refine fg_2_46 (some 19) rfl dX2_lengthOf_95 (co_8 hL).1 (co_8 hL).2 (ca_19 hL).1 ?_
      refine z_iload 5 dX2_lengthOf_98 rfl ?_
      refine z_iald (I 19 ((if ((a7 + 1) : Int32) < (I 8 15) then (a7 + 1) else 0).toNatClampNeg)) dX2_lengthOf_100 (ca_19 hL).2.1 (ca_19 hL).2.2 o4 rfl ?_
      refine z_aload_n 0 dX2_lengthOf_101 rfl ?_
      refine fg_2_46 (some 19) rfl dX2_lengthOf_102 (co_8 hL).1 (co_8 hL).2 (ca_19 hL).1 ?_
      refine z_iload 3 dX2_lengthOf_105 rfl ?_
      refine z_iald (I 19 a7.toNatClampNeg) dX2_lengthOf_107 (ca_19 hL).2.1 (ca_19 hL).2.2 o5 rfl ?_
      refine z_isub dX2_lengthOf_108 ?_
      refine z_i2l dX2_lengthOf_109 ?_
      refine z_lstore [1, 2, 3, 4, 5, 6, 7, 0] [(0, .ref (n0 + 8)), (4, .int a4), (5, .long a5), (7, .int a7), (8, .int a8), (9, .int (if ((a7 + 1) : Int32) < (I 8 15) then (a7 + 1) else 0)), (10, .long ((((I 18 ((if ((a7 + 1) : Int32) < (I 8 15) then (a7 + 1) else 0).toNatClampNeg)) - (I 18 a7.toNatClampNeg)) : Int32).toInt64)), (12, .long ((((I 19 ((if ((a7 + 1) : Int32) < (I 8 15) then (a7 + 1) else 0).toNatClampNeg)) - (I 19 a7.toNatClampNeg)) : Int32).toInt64))] dX2_lengthOf_110 (by decide) rfl ?_
      refine z_lload 2 dX2_lengthOf_112 rfl ?_
      refine z_lload 6 dX2_lengthOf_114 rfl ?_
      refine z_lload 6 dX2_lengthOf_116 rfl ?_
      refine z_lmul dX2_lengthOf_118 ?_
      refine z_lload 7 dX2_lengthOf_119 rfl ?_
      refine z_lload 7 dX2_lengthOf_121 rfl ?_
      refine z_lmul dX2_lengthOf_123 ?_
      refine z_ladd dX2_lengthOf_124 ?_
      refine z_callSN0 (As := [.long ((((((I 18 ((if ((a7 + 1) : Int32) < (I 8 15) then (a7 + 1) else 0).toNatClampNeg)) - (I 18 a7.toNatClampNeg)) : Int32).toInt64) * ((((I 18 ((if ((a7 + 1) : Int32) < (I 8 15) then (a7 + 1) else 0).toNatClampNeg)) - (I 18 a7.toNatClampNeg)) : Int32).toInt64)) + (((((I 19 ((if ((a7 + 1) : Int32) < (I 8 15) then (a7 + 1) else 0).toNatClampNeg)) - (I 19 a7.toNatClampNeg)) : Int32).toInt64) * ((((I 19 ((if ((a7 + 1) : Int32) < (I 8 15) then (a7 + 1) else 0).toNatClampNeg)) - (I 19 a7.toNatClampNeg)) : Int32).toInt64)))]) (st := [.long a5]) dX2_lengthOf_125 hy_X12_rootOf wn_860 wg_861 (Nat.le_refl _) (Nat.le_of_ble_eq_true rfl) (RM0.mono h ?_)
      clear h
      intro vv I6 L7 h
      obtain ⟨r8, rfl, h⟩ := h
      change Z n0 xX2_lengthOf (d + 1) rc rs 128 [(0, .ref (n0 + 8)), (4, .int a4), (5, .long a5), (7, .int a7), (8, .int a8), (9, .int (if ((a7 + 1) : Int32) < (I 8 15) then (a7 + 1) else 0)), (10, .long ((((I 18 ((if ((a7 + 1) : Int32) < (I 8 15) then (a7 + 1) else 0).toNatClampNeg)) - (I 18 a7.toNatClampNeg)) : Int32).toInt64)), (12, .long ((((I 19 ((if ((a7 + 1) : Int32) < (I 8 15) then (a7 + 1) else 0).toNatClampNeg)) - (I 19 a7.toNatClampNeg)) : Int32).toInt64))] [.long r8, .long a5] K I6 L7 (z_q0 K Q)
      refine z_ladd dX2_lengthOf_128 ?_
      refine z_lstore [1, 2, 0, 3, 4, 5, 6, 7] [(0, .ref (n0 + 8)), (4, .int a4), (5, .long (a5 + r8)), (7, .int a7), (8, .int a8), (9, .int (if ((a7 + 1) : Int32) < (I 8 15) then (a7 + 1) else 0)), (10, .long ((((I 18 ((if ((a7 + 1) : Int32) < (I 8 15) then (a7 + 1) else 0).toNatClampNeg)) - (I 18 a7.toNatClampNeg)) : Int32).toInt64)), (12, .long ((((I 19 ((if ((a7 + 1) : Int32) < (I 8 15) then (a7 + 1) else 0).toNatClampNeg)) - (I 19 a7.toNatClampNeg)) : Int32).toInt64))] dX2_lengthOf_129 (by decide) rfl ?_
      refine z_iload 5 dX2_lengthOf_131 rfl ?_
      refine z_istore [1, 2, 3, 0, 4, 5, 6, 7] [(0, .ref (n0 + 8)), (4, .int a4), (5, .long (a5 + r8)), (7, .int (if ((a7 + 1) : Int32) < (I 8 15) then (a7 + 1) else 0)), (8, .int a8), (9, .int (if ((a7 + 1) : Int32) < (I 8 15) then (a7 + 1) else 0)), (10, .long ((((I 18 ((if ((a7 + 1) : Int32) < (I 8 15) then (a7 + 1) else 0).toNatClampNeg)) - (I 18 a7.toNatClampNeg)) : Int32).toInt64)), (12, .long ((((I 19 ((if ((a7 + 1) : Int32) < (I 8 15) then (a7 + 1) else 0).toNatClampNeg)) - (I 19 a7.toNatClampNeg)) : Int32).toInt64))] dX2_lengthOf_133 (by decide) rfl ?_
      refine z_iinc (j := 4) (a8 + 1) [1, 2, 3, 4, 0, 5, 6, 7] [(0, .ref (n0 + 8)), (4, .int a4), (5, .long (a5 + r8)), (7, .int (if ((a7 + 1) : Int32) < (I 8 15) then (a7 + 1) else 0)), (8, .int (a8 + 1)), (9, .int (if ((a7 + 1) : Int32) < (I 8 15) then (a7 + 1) else 0)), (10, .long ((((I 18 ((if ((a7 + 1) : Int32) < (I 8 15) then (a7 + 1) else 0).toNatClampNeg)) - (I 18 a7.toNatClampNeg)) : Int32).toInt64)), (12, .long ((((I 19 ((if ((a7 + 1) : Int32) < (I 8 15) then (a7 + 1) else 0).toNatClampNeg)) - (I 19 a7.toNatClampNeg)) : Int32).toInt64))] dX2_lengthOf_135 rfl rfl (by decide) rfl ?_
      refine z_goto 48 dX2_lengthOf_138 (by decide) ?_
      refine z_sub [0, 1, 2, 3, 4] rfl ?_
      exact h
    refine z_icmp_ge 73 dX2_lengthOf_63 (by decide) (fun g2 => ?_) (fun g2 => ?_)
    · refine z_iconst 0 dX2_lengthOf_73 (by decide) ?_
      have ee : ((if ((a7 + 1) : Int32) < (I 8 15) then (a7 + 1) else 0) : Int32) = 0 := by rw [if_neg g2]
      rw [ee] at key3
      clear ee
      exact key3
    · refine z_iload 3 dX2_lengthOf_66 rfl ?_
      refine z_iconst 1 dX2_lengthOf_68 (by decide) ?_
      refine z_iadd dX2_lengthOf_69 ?_
      refine z_goto 74 dX2_lengthOf_70 (by decide) ?_
      have ee : ((if ((a7 + 1) : Int32) < (I 8 15) then (a7 + 1) else 0) : Int32) = (a7 + 1) := by rw [if_pos g2]
      rw [ee] at key3
      clear ee
      exact key3
