theorem dX5_init_0 : decode cX5_init 0 = .ok (.aload_n 0, 1) := by decide +kernel
theorem dX5_init_1 : decode cX5_init 1 = .ok (.invokespecial 3, 3) := by decide +kernel
theorem dX5_init_4 : decode cX5_init 4 = .ok (.aload_n 0, 1) := by decide +kernel
theorem dX5_init_5 : decode cX5_init 5 = .ok (.iload_n 1, 1) := by decide +kernel
theorem dX5_init_6 : decode cX5_init 6 = .ok (.putfield 9, 3) := by decide +kernel
theorem dX5_init_9 : decode cX5_init 9 = .ok (.aload_n 0, 1) := by decide +kernel
theorem dX5_init_10 : decode cX5_init 10 = .ok (.iload_n 2, 1) := by decide +kernel
theorem dX5_init_11 : decode cX5_init 11 = .ok (.putfield 15, 3) := by decide +kernel
theorem dX5_init_14 : decode cX5_init 14 = .ok (.aload_n 0, 1) := by decide +kernel
theorem dX5_init_15 : decode cX5_init 15 = .ok (.iload_n 3, 1) := by decide +kernel
theorem dX5_init_16 : decode cX5_init 16 = .ok (.putfield 18, 3) := by decide +kernel
theorem dX5_init_19 : decode cX5_init 19 = .ok (.aload_n 0, 1) := by decide +kernel
theorem dX5_init_20 : decode cX5_init 20 = .ok (.iload_n 2, 1) := by decide +kernel
theorem dX5_init_21 : decode cX5_init 21 = .ok (.iconst 3, 1) := by decide +kernel
theorem dX5_init_22 : decode cX5_init 22 = .ok (.if_icmp .ne 8, 3) := by decide +kernel
theorem dX5_init_25 : decode cX5_init 25 = .ok (.aload 4, 2) := by decide +kernel
theorem dX5_init_27 : decode cX5_init 27 = .ok (.goto 4, 3) := by decide +kernel
theorem dX5_init_30 : decode cX5_init 30 = .ok (.aconst_null, 1) := by decide +kernel
theorem dX5_init_31 : decode cX5_init 31 = .ok (.putfield 21, 3) := by decide +kernel
theorem dX5_init_34 : decode cX5_init 34 = .ok (.aload_n 0, 1) := by decide +kernel
theorem dX5_init_35 : decode cX5_init 35 = .ok (.bipush 10, 2) := by decide +kernel
theorem dX5_init_37 : decode cX5_init 37 = .ok (.anewarray 25, 3) := by decide +kernel
theorem dX5_init_40 : decode cX5_init 40 = .ok (.putfield 27, 3) := by decide +kernel
theorem dX5_init_43 : decode cX5_init 43 = .ok (.aload_n 0, 1) := by decide +kernel
theorem dX5_init_44 : decode cX5_init 44 = .ok (.bipush 10, 2) := by decide +kernel
theorem dX5_init_46 : decode cX5_init 46 = .ok (.newarray .int, 2) := by decide +kernel
theorem dX5_init_48 : decode cX5_init 48 = .ok (.putfield 31, 3) := by decide +kernel
theorem dX5_init_51 : decode cX5_init 51 = .ok (.aload_n 0, 1) := by decide +kernel
theorem dX5_init_52 : decode cX5_init 52 = .ok (.bipush 10, 2) := by decide +kernel
theorem dX5_init_54 : decode cX5_init 54 = .ok (.newarray .int, 2) := by decide +kernel
theorem dX5_init_56 : decode cX5_init 56 = .ok (.putfield 35, 3) := by decide +kernel
theorem dX5_init_59 : decode cX5_init 59 = .ok (.aload_n 0, 1) := by decide +kernel
theorem dX5_init_60 : decode cX5_init 60 = .ok (.bipush 10, 2) := by decide +kernel
theorem dX5_init_62 : decode cX5_init 62 = .ok (.newarray .boolean, 2) := by decide +kernel
theorem dX5_init_64 : decode cX5_init 64 = .ok (.putfield 38, 3) := by decide +kernel
theorem dX5_init_67 : decode cX5_init 67 = .ok (.aload_n 0, 1) := by decide +kernel
theorem dX5_init_68 : decode cX5_init 68 = .ok (.bipush 10, 2) := by decide +kernel
theorem dX5_init_70 : decode cX5_init 70 = .ok (.newarray .int, 2) := by decide +kernel
theorem dX5_init_72 : decode cX5_init 72 = .ok (.putfield 42, 3) := by decide +kernel
theorem dX5_init_75 : decode cX5_init 75 = .ok (.aload_n 0, 1) := by decide +kernel
theorem dX5_init_76 : decode cX5_init 76 = .ok (.bipush 10, 2) := by decide +kernel
theorem dX5_init_78 : decode cX5_init 78 = .ok (.newarray .int, 2) := by decide +kernel
theorem dX5_init_80 : decode cX5_init 80 = .ok (.putfield 45, 3) := by decide +kernel
theorem dX5_init_83 : decode cX5_init 83 = .ok (.return_, 1) := by decide +kernel
set_option maxRecDepth 100000 in
set_option maxHeartbeats 4000000 in
theorem ct_X5_init_3 {n0 d o : Nat} {K : z_K} {I : z_I} {L : z_L} {Q : z_R} {p0 : Int32} {p1 : Int32} {p2 : Int32} {p3 : Option Nat} (ho : o < K.1) (hc : (K.2.1 o).1 = 5) (hbr : p1 = 3) (h : Q none (([(5, 36, 10), (6, 20, 10), (7, 20, 10), (8, 21, 10), (9, 20, 10), (10, 20, 10)] : List (Nat × Nat × Nat)).foldl (ctA o) (zR ((((K, I, L).1, zI (K, I, L).2.1 o 0 p0, (K, I, L).2.2).1, zI ((K, I, L).1, zI (K, I, L).2.1 o 0 p0, (K, I, L).2.2).2.1 o 1 p1, ((K, I, L).1, zI (K, I, L).2.1 o 0 p0, (K, I, L).2.2).2.2).1, zI (((K, I, L).1, zI (K, I, L).2.1 o 0 p0, (K, I, L).2.2).1, zI ((K, I, L).1, zI (K, I, L).2.1 o 0 p0, (K, I, L).2.2).2.1 o 1 p1, ((K, I, L).1, zI (K, I, L).2.1 o 0 p0, (K, I, L).2.2).2.2).2.1 o 2 p2, (((K, I, L).1, zI (K, I, L).2.1 o 0 p0, (K, I, L).2.2).1, zI ((K, I, L).1, zI (K, I, L).2.1 o 0 p0, (K, I, L).2.2).2.1 o 1 p1, ((K, I, L).1, zI (K, I, L).2.1 o 0 p0, (K, I, L).2.2).2.2).2.2).1 o 3 p3, ((((K, I, L).1, zI (K, I, L).2.1 o 0 p0, (K, I, L).2.2).1, zI ((K, I, L).1, zI (K, I, L).2.1 o 0 p0, (K, I, L).2.2).2.1 o 1 p1, ((K, I, L).1, zI (K, I, L).2.1 o 0 p0, (K, I, L).2.2).2.2).1, zI (((K, I, L).1, zI (K, I, L).2.1 o 0 p0, (K, I, L).2.2).1, zI ((K, I, L).1, zI (K, I, L).2.1 o 0 p0, (K, I, L).2.2).2.1 o 1 p1, ((K, I, L).1, zI (K, I, L).2.1 o 0 p0, (K, I, L).2.2).2.2).2.1 o 2 p2, (((K, I, L).1, zI (K, I, L).2.1 o 0 p0, (K, I, L).2.2).1, zI ((K, I, L).1, zI (K, I, L).2.1 o 0 p0, (K, I, L).2.2).2.1 o 1 p1, ((K, I, L).1, zI (K, I, L).2.1 o 0 p0, (K, I, L).2.2).2.2).2.2).2.1, ((((K, I, L).1, zI (K, I, L).2.1 o 0 p0, (K, I, L).2.2).1, zI ((K, I, L).1, zI (K, I, L).2.1 o 0 p0, (K, I, L).2.2).2.1 o 1 p1, ((K, I, L).1, zI (K, I, L).2.1 o 0 p0, (K, I, L).2.2).2.2).1, zI (((K, I, L).1, zI (K, I, L).2.1 o 0 p0, (K, I, L).2.2).1, zI ((K, I, L).1, zI (K, I, L).2.1 o 0 p0, (K, I, L).2.2).2.1 o 1 p1, ((K, I, L).1, zI (K, I, L).2.1 o 0 p0, (K, I, L).2.2).2.2).2.1 o 2 p2, (((K, I, L).1, zI (K, I, L).2.1 o 0 p0, (K, I, L).2.2).1, zI ((K, I, L).1, zI (K, I, L).2.1 o 0 p0, (K, I, L).2.2).2.1 o 1 p1, ((K, I, L).1, zI (K, I, L).2.1 o 0 p0, (K, I, L).2.2).2.2).2.2).2.2)).1 (([(5, 36, 10), (6, 20, 10), (7, 20, 10), (8, 21, 10), (9, 20, 10), (10, 20, 10)] : List (Nat × Nat × Nat)).foldl (ctA o) (zR ((((K, I, L).1, zI (K, I, L).2.1 o 0 p0, (K, I, L).2.2).1, zI ((K, I, L).1, zI (K, I, L).2.1 o 0 p0, (K, I, L).2.2).2.1 o 1 p1, ((K, I, L).1, zI (K, I, L).2.1 o 0 p0, (K, I, L).2.2).2.2).1, zI (((K, I, L).1, zI (K, I, L).2.1 o 0 p0, (K, I, L).2.2).1, zI ((K, I, L).1, zI (K, I, L).2.1 o 0 p0, (K, I, L).2.2).2.1 o 1 p1, ((K, I, L).1, zI (K, I, L).2.1 o 0 p0, (K, I, L).2.2).2.2).2.1 o 2 p2, (((K, I, L).1, zI (K, I, L).2.1 o 0 p0, (K, I, L).2.2).1, zI ((K, I, L).1, zI (K, I, L).2.1 o 0 p0, (K, I, L).2.2).2.1 o 1 p1, ((K, I, L).1, zI (K, I, L).2.1 o 0 p0, (K, I, L).2.2).2.2).2.2).1 o 3 p3, ((((K, I, L).1, zI (K, I, L).2.1 o 0 p0, (K, I, L).2.2).1, zI ((K, I, L).1, zI (K, I, L).2.1 o 0 p0, (K, I, L).2.2).2.1 o 1 p1, ((K, I, L).1, zI (K, I, L).2.1 o 0 p0, (K, I, L).2.2).2.2).1, zI (((K, I, L).1, zI (K, I, L).2.1 o 0 p0, (K, I, L).2.2).1, zI ((K, I, L).1, zI (K, I, L).2.1 o 0 p0, (K, I, L).2.2).2.1 o 1 p1, ((K, I, L).1, zI (K, I, L).2.1 o 0 p0, (K, I, L).2.2).2.2).2.1 o 2 p2, (((K, I, L).1, zI (K, I, L).2.1 o 0 p0, (K, I, L).2.2).1, zI ((K, I, L).1, zI (K, I, L).2.1 o 0 p0, (K, I, L).2.2).2.1 o 1 p1, ((K, I, L).1, zI (K, I, L).2.1 o 0 p0, (K, I, L).2.2).2.2).2.2).2.1, ((((K, I, L).1, zI (K, I, L).2.1 o 0 p0, (K, I, L).2.2).1, zI ((K, I, L).1, zI (K, I, L).2.1 o 0 p0, (K, I, L).2.2).2.1 o 1 p1, ((K, I, L).1, zI (K, I, L).2.1 o 0 p0, (K, I, L).2.2).2.2).1, zI (((K, I, L).1, zI (K, I, L).2.1 o 0 p0, (K, I, L).2.2).1, zI ((K, I, L).1, zI (K, I, L).2.1 o 0 p0, (K, I, L).2.2).2.1 o 1 p1, ((K, I, L).1, zI (K, I, L).2.1 o 0 p0, (K, I, L).2.2).2.2).2.1 o 2 p2, (((K, I, L).1, zI (K, I, L).2.1 o 0 p0, (K, I, L).2.2).1, zI ((K, I, L).1, zI (K, I, L).2.1 o 0 p0, (K, I, L).2.2).2.1 o 1 p1, ((K, I, L).1, zI (K, I, L).2.1 o 0 p0, (K, I, L).2.2).2.2).2.2).2.2)).2.1 (([(5, 36, 10), (6, 20, 10), (7, 20, 10), (8, 21, 10), (9, 20, 10), (10, 20, 10)] : List (Nat × Nat × Nat)).foldl (ctA o) (zR ((((K, I, L).1, zI (K, I, L).2.1 o 0 p0, (K, I, L).2.2).1, zI ((K, I, L).1, zI (K, I, L).2.1 o 0 p0, (K, I, L).2.2).2.1 o 1 p1, ((K, I, L).1, zI (K, I, L).2.1 o 0 p0, (K, I, L).2.2).2.2).1, zI (((K, I, L).1, zI (K, I, L).2.1 o 0 p0, (K, I, L).2.2).1, zI ((K, I, L).1, zI (K, I, L).2.1 o 0 p0, (K, I, L).2.2).2.1 o 1 p1, ((K, I, L).1, zI (K, I, L).2.1 o 0 p0, (K, I, L).2.2).2.2).2.1 o 2 p2, (((K, I, L).1, zI (K, I, L).2.1 o 0 p0, (K, I, L).2.2).1, zI ((K, I, L).1, zI (K, I, L).2.1 o 0 p0, (K, I, L).2.2).2.1 o 1 p1, ((K, I, L).1, zI (K, I, L).2.1 o 0 p0, (K, I, L).2.2).2.2).2.2).1 o 3 p3, ((((K, I, L).1, zI (K, I, L).2.1 o 0 p0, (K, I, L).2.2).1, zI ((K, I, L).1, zI (K, I, L).2.1 o 0 p0, (K, I, L).2.2).2.1 o 1 p1, ((K, I, L).1, zI (K, I, L).2.1 o 0 p0, (K, I, L).2.2).2.2).1, zI (((K, I, L).1, zI (K, I, L).2.1 o 0 p0, (K, I, L).2.2).1, zI ((K, I, L).1, zI (K, I, L).2.1 o 0 p0, (K, I, L).2.2).2.1 o 1 p1, ((K, I, L).1, zI (K, I, L).2.1 o 0 p0, (K, I, L).2.2).2.2).2.1 o 2 p2, (((K, I, L).1, zI (K, I, L).2.1 o 0 p0, (K, I, L).2.2).1, zI ((K, I, L).1, zI (K, I, L).2.1 o 0 p0, (K, I, L).2.2).2.1 o 1 p1, ((K, I, L).1, zI (K, I, L).2.1 o 0 p0, (K, I, L).2.2).2.2).2.2).2.1, ((((K, I, L).1, zI (K, I, L).2.1 o 0 p0, (K, I, L).2.2).1, zI ((K, I, L).1, zI (K, I, L).2.1 o 0 p0, (K, I, L).2.2).2.1 o 1 p1, ((K, I, L).1, zI (K, I, L).2.1 o 0 p0, (K, I, L).2.2).2.2).1, zI (((K, I, L).1, zI (K, I, L).2.1 o 0 p0, (K, I, L).2.2).1, zI ((K, I, L).1, zI (K, I, L).2.1 o 0 p0, (K, I, L).2.2).2.1 o 1 p1, ((K, I, L).1, zI (K, I, L).2.1 o 0 p0, (K, I, L).2.2).2.2).2.1 o 2 p2, (((K, I, L).1, zI (K, I, L).2.1 o 0 p0, (K, I, L).2.2).1, zI ((K, I, L).1, zI (K, I, L).2.1 o 0 p0, (K, I, L).2.2).2.1 o 1 p1, ((K, I, L).1, zI (K, I, L).2.1 o 0 p0, (K, I, L).2.2).2.2).2.2).2.2)).2.2) : RM n0 xX5_init (d + 1) 6 60 [.ref (n0 + o), .int p0, .int p1, .int p2, zr n0 p3] K I L Q := by
  refine z_entry (by decide) (by cases p3 <;> exact Nat.le_of_ble_eq_true rfl) ?_
  rw [show lv_args 0 [.ref (n0 + o), .int p0, .int p1, .int p2, zr n0 p3] = [(0, .ref (n0 + o)), (1, .int p0), (2, .int p1), (3, .int p2), (4, zr n0 p3)] by (cases p3 <;> rfl)]
  change Z n0 xX5_init (d + 1) 6 60 0 [(0, .ref (n0 + o)), (1, .int p0), (2, .int p1), (3, .int p2), (4, zr n0 p3)] [] K I L Q
  refine z_aload_n 0 dX5_init_0 rfl ?_
  refine z_objInit dX5_init_1 wg_584 wg_130 wg_131 (by omega) ?_
  refine z_aload_n 0 dX5_init_4 rfl ?_
  refine z_iload_n 1 dX5_init_5 rfl ?_
  refine fp_5_9 rfl rfl dX5_init_6 ho hc ?_
  refine z_aload_n 0 dX5_init_9 rfl ?_
  refine z_iload_n 2 dX5_init_10 rfl ?_
  refine fp_5_15 rfl rfl dX5_init_11 ho hc ?_
  refine z_aload_n 0 dX5_init_14 rfl ?_
  refine z_iload_n 3 dX5_init_15 rfl ?_
  refine fp_5_18 rfl rfl dX5_init_16 ho hc ?_
  refine z_aload_n 0 dX5_init_19 rfl ?_
  refine z_iload_n 2 dX5_init_20 rfl ?_
  refine z_iconst 3 dX5_init_21 (by decide) ?_
  refine z_icmp_ne 30 dX5_init_22 (by decide) (fun q => absurd hbr q) (fun _ => ?_)
  refine z_aloadO 4 dX5_init_25 rfl ?_
  refine z_goto 31 dX5_init_27 (by decide) ?_
  refine fp_5_21 p3 rfl rfl dX5_init_31 ho hc ?_
  refine z_aload_n 0 dX5_init_34 rfl ?_
  refine z_bipush 10 dX5_init_35 (by decide) ?_
  refine z_newqO (t := 36) (N := 10) (rc := 5) (rs := 50) dX5_init_37 (by unfold z_rt; decide) wg_585 wn_586 (by decide) (by decide) (by decide) (fun hf => ?_)
  obtain ⟨ho, hc⟩ := hf _ _ ho hc
  refine fp_5_27 (some _) rfl rfl dX5_init_40 ho hc ?_
  refine z_aload_n 0 dX5_init_43 rfl ?_
  refine z_bipush 10 dX5_init_44 (by decide) ?_
  refine z_newaO (t := 20) (N := 10) (rc := 4) (rs := 40) dX5_init_46 (Or.inl ⟨rfl, rfl⟩) wg_171 (by decide) (by decide) (by decide) (fun hf => ?_)
  obtain ⟨ho, hc⟩ := hf _ _ ho hc
  refine fp_5_31 (some _) rfl rfl dX5_init_48 ho hc ?_
  refine z_aload_n 0 dX5_init_51 rfl ?_
  refine z_bipush 10 dX5_init_52 (by decide) ?_
  refine z_newaO (t := 20) (N := 10) (rc := 3) (rs := 30) dX5_init_54 (Or.inl ⟨rfl, rfl⟩) wg_171 (by decide) (by decide) (by decide) (fun hf => ?_)
  obtain ⟨ho, hc⟩ := hf _ _ ho hc
  refine fp_5_35 (some _) rfl rfl dX5_init_56 ho hc ?_
  refine z_aload_n 0 dX5_init_59 rfl ?_
  refine z_bipush 10 dX5_init_60 (by decide) ?_
  refine z_newaO (t := 21) (N := 10) (rc := 2) (rs := 20) dX5_init_62 (Or.inr (Or.inl ⟨rfl, rfl⟩)) wg_638 (by decide) (by decide) (by decide) (fun hf => ?_)
  obtain ⟨ho, hc⟩ := hf _ _ ho hc
  refine fp_5_38 (some _) rfl rfl dX5_init_64 ho hc ?_
  refine z_aload_n 0 dX5_init_67 rfl ?_
  refine z_bipush 10 dX5_init_68 (by decide) ?_
  refine z_newaO (t := 20) (N := 10) (rc := 1) (rs := 10) dX5_init_70 (Or.inl ⟨rfl, rfl⟩) wg_171 (by decide) (by decide) (by decide) (fun hf => ?_)
  obtain ⟨ho, hc⟩ := hf _ _ ho hc
  refine fp_5_42 (some _) rfl rfl dX5_init_72 ho hc ?_
  refine z_aload_n 0 dX5_init_75 rfl ?_
  refine z_bipush 10 dX5_init_76 (by decide) ?_
  refine z_newaO (t := 20) (N := 10) (rc := 0) (rs := 0) dX5_init_78 (Or.inl ⟨rfl, rfl⟩) wg_171 (by decide) (by decide) (by decide) (fun hf => ?_)
  obtain ⟨ho, hc⟩ := hf _ _ ho hc
  refine fp_5_45 (some _) rfl rfl dX5_init_80 ho hc ?_
  exact z_vret dX5_init_83 rfl h
set_option maxRecDepth 100000 in
set_option maxHeartbeats 4000000 in
theorem ct_X5_init_n {n0 d o : Nat} {K : z_K} {I : z_I} {L : z_L} {Q : z_R} {p0 : Int32} {p1 : Int32} {p2 : Int32} {p3 : Option Nat} (ho : o < K.1) (hc : (K.2.1 o).1 = 5) (hbr : ¬ p1 = 3) (h : Q none (([(5, 36, 10), (6, 20, 10), (7, 20, 10), (8, 21, 10), (9, 20, 10), (10, 20, 10)] : List (Nat × Nat × Nat)).foldl (ctA o) (zR ((((K, I, L).1, zI (K, I, L).2.1 o 0 p0, (K, I, L).2.2).1, zI ((K, I, L).1, zI (K, I, L).2.1 o 0 p0, (K, I, L).2.2).2.1 o 1 p1, ((K, I, L).1, zI (K, I, L).2.1 o 0 p0, (K, I, L).2.2).2.2).1, zI (((K, I, L).1, zI (K, I, L).2.1 o 0 p0, (K, I, L).2.2).1, zI ((K, I, L).1, zI (K, I, L).2.1 o 0 p0, (K, I, L).2.2).2.1 o 1 p1, ((K, I, L).1, zI (K, I, L).2.1 o 0 p0, (K, I, L).2.2).2.2).2.1 o 2 p2, (((K, I, L).1, zI (K, I, L).2.1 o 0 p0, (K, I, L).2.2).1, zI ((K, I, L).1, zI (K, I, L).2.1 o 0 p0, (K, I, L).2.2).2.1 o 1 p1, ((K, I, L).1, zI (K, I, L).2.1 o 0 p0, (K, I, L).2.2).2.2).2.2).1 o 3 (none : Option Nat), ((((K, I, L).1, zI (K, I, L).2.1 o 0 p0, (K, I, L).2.2).1, zI ((K, I, L).1, zI (K, I, L).2.1 o 0 p0, (K, I, L).2.2).2.1 o 1 p1, ((K, I, L).1, zI (K, I, L).2.1 o 0 p0, (K, I, L).2.2).2.2).1, zI (((K, I, L).1, zI (K, I, L).2.1 o 0 p0, (K, I, L).2.2).1, zI ((K, I, L).1, zI (K, I, L).2.1 o 0 p0, (K, I, L).2.2).2.1 o 1 p1, ((K, I, L).1, zI (K, I, L).2.1 o 0 p0, (K, I, L).2.2).2.2).2.1 o 2 p2, (((K, I, L).1, zI (K, I, L).2.1 o 0 p0, (K, I, L).2.2).1, zI ((K, I, L).1, zI (K, I, L).2.1 o 0 p0, (K, I, L).2.2).2.1 o 1 p1, ((K, I, L).1, zI (K, I, L).2.1 o 0 p0, (K, I, L).2.2).2.2).2.2).2.1, ((((K, I, L).1, zI (K, I, L).2.1 o 0 p0, (K, I, L).2.2).1, zI ((K, I, L).1, zI (K, I, L).2.1 o 0 p0, (K, I, L).2.2).2.1 o 1 p1, ((K, I, L).1, zI (K, I, L).2.1 o 0 p0, (K, I, L).2.2).2.2).1, zI (((K, I, L).1, zI (K, I, L).2.1 o 0 p0, (K, I, L).2.2).1, zI ((K, I, L).1, zI (K, I, L).2.1 o 0 p0, (K, I, L).2.2).2.1 o 1 p1, ((K, I, L).1, zI (K, I, L).2.1 o 0 p0, (K, I, L).2.2).2.2).2.1 o 2 p2, (((K, I, L).1, zI (K, I, L).2.1 o 0 p0, (K, I, L).2.2).1, zI ((K, I, L).1, zI (K, I, L).2.1 o 0 p0, (K, I, L).2.2).2.1 o 1 p1, ((K, I, L).1, zI (K, I, L).2.1 o 0 p0, (K, I, L).2.2).2.2).2.2).2.2)).1 (([(5, 36, 10), (6, 20, 10), (7, 20, 10), (8, 21, 10), (9, 20, 10), (10, 20, 10)] : List (Nat × Nat × Nat)).foldl (ctA o) (zR ((((K, I, L).1, zI (K, I, L).2.1 o 0 p0, (K, I, L).2.2).1, zI ((K, I, L).1, zI (K, I, L).2.1 o 0 p0, (K, I, L).2.2).2.1 o 1 p1, ((K, I, L).1, zI (K, I, L).2.1 o 0 p0, (K, I, L).2.2).2.2).1, zI (((K, I, L).1, zI (K, I, L).2.1 o 0 p0, (K, I, L).2.2).1, zI ((K, I, L).1, zI (K, I, L).2.1 o 0 p0, (K, I, L).2.2).2.1 o 1 p1, ((K, I, L).1, zI (K, I, L).2.1 o 0 p0, (K, I, L).2.2).2.2).2.1 o 2 p2, (((K, I, L).1, zI (K, I, L).2.1 o 0 p0, (K, I, L).2.2).1, zI ((K, I, L).1, zI (K, I, L).2.1 o 0 p0, (K, I, L).2.2).2.1 o 1 p1, ((K, I, L).1, zI (K, I, L).2.1 o 0 p0, (K, I, L).2.2).2.2).2.2).1 o 3 (none : Option Nat), ((((K, I, L).1, zI (K, I, L).2.1 o 0 p0, (K, I, L).2.2).1, zI ((K, I, L).1, zI (K, I, L).2.1 o 0 p0, (K, I, L).2.2).2.1 o 1 p1, ((K, I, L).1, zI (K, I, L).2.1 o 0 p0, (K, I, L).2.2).2.2).1, zI (((K, I, L).1, zI (K, I, L).2.1 o 0 p0, (K, I, L).2.2).1, zI ((K, I, L).1, zI (K, I, L).2.1 o 0 p0, (K, I, L).2.2).2.1 o 1 p1, ((K, I, L).1, zI (K, I, L).2.1 o 0 p0, (K, I, L).2.2).2.2).2.1 o 2 p2, (((K, I, L).1, zI (K, I, L).2.1 o 0 p0, (K, I, L).2.2).1, zI ((K, I, L).1, zI (K, I, L).2.1 o 0 p0, (K, I, L).2.2).2.1 o 1 p1, ((K, I, L).1, zI (K, I, L).2.1 o 0 p0, (K, I, L).2.2).2.2).2.2).2.1, ((((K, I, L).1, zI (K, I, L).2.1 o 0 p0, (K, I, L).2.2).1, zI ((K, I, L).1, zI (K, I, L).2.1 o 0 p0, (K, I, L).2.2).2.1 o 1 p1, ((K, I, L).1, zI (K, I, L).2.1 o 0 p0, (K, I, L).2.2).2.2).1, zI (((K, I, L).1, zI (K, I, L).2.1 o 0 p0, (K, I, L).2.2).1, zI ((K, I, L).1, zI (K, I, L).2.1 o 0 p0, (K, I, L).2.2).2.1 o 1 p1, ((K, I, L).1, zI (K, I, L).2.1 o 0 p0, (K, I, L).2.2).2.2).2.1 o 2 p2, (((K, I, L).1, zI (K, I, L).2.1 o 0 p0, (K, I, L).2.2).1, zI ((K, I, L).1, zI (K, I, L).2.1 o 0 p0, (K, I, L).2.2).2.1 o 1 p1, ((K, I, L).1, zI (K, I, L).2.1 o 0 p0, (K, I, L).2.2).2.2).2.2).2.2)).2.1 (([(5, 36, 10), (6, 20, 10), (7, 20, 10), (8, 21, 10), (9, 20, 10), (10, 20, 10)] : List (Nat × Nat × Nat)).foldl (ctA o) (zR ((((K, I, L).1, zI (K, I, L).2.1 o 0 p0, (K, I, L).2.2).1, zI ((K, I, L).1, zI (K, I, L).2.1 o 0 p0, (K, I, L).2.2).2.1 o 1 p1, ((K, I, L).1, zI (K, I, L).2.1 o 0 p0, (K, I, L).2.2).2.2).1, zI (((K, I, L).1, zI (K, I, L).2.1 o 0 p0, (K, I, L).2.2).1, zI ((K, I, L).1, zI (K, I, L).2.1 o 0 p0, (K, I, L).2.2).2.1 o 1 p1, ((K, I, L).1, zI (K, I, L).2.1 o 0 p0, (K, I, L).2.2).2.2).2.1 o 2 p2, (((K, I, L).1, zI (K, I, L).2.1 o 0 p0, (K, I, L).2.2).1, zI ((K, I, L).1, zI (K, I, L).2.1 o 0 p0, (K, I, L).2.2).2.1 o 1 p1, ((K, I, L).1, zI (K, I, L).2.1 o 0 p0, (K, I, L).2.2).2.2).2.2).1 o 3 (none : Option Nat), ((((K, I, L).1, zI (K, I, L).2.1 o 0 p0, (K, I, L).2.2).1, zI ((K, I, L).1, zI (K, I, L).2.1 o 0 p0, (K, I, L).2.2).2.1 o 1 p1, ((K, I, L).1, zI (K, I, L).2.1 o 0 p0, (K, I, L).2.2).2.2).1, zI (((K, I, L).1, zI (K, I, L).2.1 o 0 p0, (K, I, L).2.2).1, zI ((K, I, L).1, zI (K, I, L).2.1 o 0 p0, (K, I, L).2.2).2.1 o 1 p1, ((K, I, L).1, zI (K, I, L).2.1 o 0 p0, (K, I, L).2.2).2.2).2.1 o 2 p2, (((K, I, L).1, zI (K, I, L).2.1 o 0 p0, (K, I, L).2.2).1, zI ((K, I, L).1, zI (K, I, L).2.1 o 0 p0, (K, I, L).2.2).2.1 o 1 p1, ((K, I, L).1, zI (K, I, L).2.1 o 0 p0, (K, I, L).2.2).2.2).2.2).2.1, ((((K, I, L).1, zI (K, I, L).2.1 o 0 p0, (K, I, L).2.2).1, zI ((K, I, L).1, zI (K, I, L).2.1 o 0 p0, (K, I, L).2.2).2.1 o 1 p1, ((K, I, L).1, zI (K, I, L).2.1 o 0 p0, (K, I, L).2.2).2.2).1, zI (((K, I, L).1, zI (K, I, L).2.1 o 0 p0, (K, I, L).2.2).1, zI ((K, I, L).1, zI (K, I, L).2.1 o 0 p0, (K, I, L).2.2).2.1 o 1 p1, ((K, I, L).1, zI (K, I, L).2.1 o 0 p0, (K, I, L).2.2).2.2).2.1 o 2 p2, (((K, I, L).1, zI (K, I, L).2.1 o 0 p0, (K, I, L).2.2).1, zI ((K, I, L).1, zI (K, I, L).2.1 o 0 p0, (K, I, L).2.2).2.1 o 1 p1, ((K, I, L).1, zI (K, I, L).2.1 o 0 p0, (K, I, L).2.2).2.2).2.2).2.2)).2.2) : RM n0 xX5_init (d + 1) 6 60 [.ref (n0 + o), .int p0, .int p1, .int p2, zr n0 p3] K I L Q := by
  refine z_entry (by decide) (by cases p3 <;> exact Nat.le_of_ble_eq_true rfl) ?_
  rw [show lv_args 0 [.ref (n0 + o), .int p0, .int p1, .int p2, zr n0 p3] = [(0, .ref (n0 + o)), (1, .int p0), (2, .int p1), (3, .int p2), (4, zr n0 p3)] by (cases p3 <;> rfl)]
  change Z n0 xX5_init (d + 1) 6 60 0 [(0, .ref (n0 + o)), (1, .int p0), (2, .int p1), (3, .int p2), (4, zr n0 p3)] [] K I L Q
  refine z_aload_n 0 dX5_init_0 rfl ?_
  refine z_objInit dX5_init_1 wg_584 wg_130 wg_131 (by omega) ?_
  refine z_aload_n 0 dX5_init_4 rfl ?_
  refine z_iload_n 1 dX5_init_5 rfl ?_
  refine fp_5_9 rfl rfl dX5_init_6 ho hc ?_
  refine z_aload_n 0 dX5_init_9 rfl ?_
  refine z_iload_n 2 dX5_init_10 rfl ?_
  refine fp_5_15 rfl rfl dX5_init_11 ho hc ?_
  refine z_aload_n 0 dX5_init_14 rfl ?_
  refine z_iload_n 3 dX5_init_15 rfl ?_
  refine fp_5_18 rfl rfl dX5_init_16 ho hc ?_
  refine z_aload_n 0 dX5_init_19 rfl ?_
  refine z_iload_n 2 dX5_init_20 rfl ?_
  refine z_iconst 3 dX5_init_21 (by decide) ?_
  refine z_icmp_ne 30 dX5_init_22 (by decide) (fun _ => ?_) (fun q => absurd q hbr)
  refine z_null dX5_init_30 ?_
  refine fp_5_21 (none : Option Nat) rfl rfl dX5_init_31 ho hc ?_
  refine z_aload_n 0 dX5_init_34 rfl ?_
  refine z_bipush 10 dX5_init_35 (by decide) ?_
  refine z_newqO (t := 36) (N := 10) (rc := 5) (rs := 50) dX5_init_37 (by unfold z_rt; decide) wg_585 wn_586 (by decide) (by decide) (by decide) (fun hf => ?_)
  obtain ⟨ho, hc⟩ := hf _ _ ho hc
  refine fp_5_27 (some _) rfl rfl dX5_init_40 ho hc ?_
  refine z_aload_n 0 dX5_init_43 rfl ?_
  refine z_bipush 10 dX5_init_44 (by decide) ?_
  refine z_newaO (t := 20) (N := 10) (rc := 4) (rs := 40) dX5_init_46 (Or.inl ⟨rfl, rfl⟩) wg_171 (by decide) (by decide) (by decide) (fun hf => ?_)
  obtain ⟨ho, hc⟩ := hf _ _ ho hc
  refine fp_5_31 (some _) rfl rfl dX5_init_48 ho hc ?_
  refine z_aload_n 0 dX5_init_51 rfl ?_
  refine z_bipush 10 dX5_init_52 (by decide) ?_
  refine z_newaO (t := 20) (N := 10) (rc := 3) (rs := 30) dX5_init_54 (Or.inl ⟨rfl, rfl⟩) wg_171 (by decide) (by decide) (by decide) (fun hf => ?_)
  obtain ⟨ho, hc⟩ := hf _ _ ho hc
  refine fp_5_35 (some _) rfl rfl dX5_init_56 ho hc ?_
  refine z_aload_n 0 dX5_init_59 rfl ?_
  refine z_bipush 10 dX5_init_60 (by decide) ?_
  refine z_newaO (t := 21) (N := 10) (rc := 2) (rs := 20) dX5_init_62 (Or.inr (Or.inl ⟨rfl, rfl⟩)) wg_638 (by decide) (by decide) (by decide) (fun hf => ?_)
  obtain ⟨ho, hc⟩ := hf _ _ ho hc
  refine fp_5_38 (some _) rfl rfl dX5_init_64 ho hc ?_
  refine z_aload_n 0 dX5_init_67 rfl ?_
  refine z_bipush 10 dX5_init_68 (by decide) ?_
  refine z_newaO (t := 20) (N := 10) (rc := 1) (rs := 10) dX5_init_70 (Or.inl ⟨rfl, rfl⟩) wg_171 (by decide) (by decide) (by decide) (fun hf => ?_)
  obtain ⟨ho, hc⟩ := hf _ _ ho hc
  refine fp_5_42 (some _) rfl rfl dX5_init_72 ho hc ?_
  refine z_aload_n 0 dX5_init_75 rfl ?_
  refine z_bipush 10 dX5_init_76 (by decide) ?_
  refine z_newaO (t := 20) (N := 10) (rc := 0) (rs := 0) dX5_init_78 (Or.inl ⟨rfl, rfl⟩) wg_171 (by decide) (by decide) (by decide) (fun hf => ?_)
  obtain ⟨ho, hc⟩ := hf _ _ ho hc
  refine fp_5_45 (some _) rfl rfl dX5_init_80 ho hc ?_
  exact z_vret dX5_init_83 rfl h
/-! the body's measures: none told -/
set_option maxRecDepth 100000 in
theorem wl_X0_init_67 {n0 d o : Nat} {K : z_K} {I : z_I} {L : z_L} {Q : z_R} {p0 a2 : Int32} {b n : Nat} (ho : o < K.1) (hc : (K.2.1 o).1 = 0) (hb : K.2.2 o 1 = some b) (hbl : b < K.1) (hbs : K.2.1 b = (20, n))
    (h : if a2 < 8 then vp_in a2 n ∧ Z n0 xX0_init (d + 1) 0 0 67 [(0, .ref (n0 + o)), (1, .int p0), (2, .int (a2 + 1))] [] K (zI I b a2.toNatClampNeg (-1)) L Q else Q none K I L) : Z n0 xX0_init (d + 1) 0 0 67 [(0, .ref (n0 + o)), (1, .int p0), (2, .int a2)] [] K I L Q := by
  refine z_iload_n 2 dX0_init_67 rfl ?_
  refine z_bipush 8 dX0_init_68 (by decide) ?_
  refine z_icmp_ge 86 dX0_init_70 (by decide) (fun g => ?_) (fun g => ?_)
  · rw [if_neg g] at h
    exact z_vret dX0_init_86 rfl h
  · rw [if_pos g] at h
    obtain ⟨h1, h2⟩ := h
    refine z_aload_n 0 dX0_init_73 rfl ?_
    refine fg_0_9 (some b) rfl dX0_init_74 ho hc hb ?_
    refine z_iload_n 2 dX0_init_77 rfl ?_
    refine z_iconst (-1) dX0_init_78 (by decide) ?_
    refine z_iast dX0_init_79 hbl hbs h1 ?_
    refine z_iinc (j := 2) (a2 + 1) [1, 2, 0] [(0, .ref (n0 + o)), (1, .int p0), (2, .int (a2 + 1))] dX0_init_80 rfl rfl (by decide) rfl ?_
    refine z_goto 67 dX0_init_83 (by decide) ?_
    exact h2
/-- rows set to -1 from place j on -/
theorem c0_init_loop {n0 d o : Nat} {K : z_K} {L : z_L} {Q : z_R} {p0 : Int32} {b : Nat} (ho : o < K.1) (hc : (K.2.1 o).1 = 0) (hb : K.2.2 o 1 = some b) (hbl : b < K.1) (hbs : K.2.1 b = (20, 8)) :
    ∀ (m j : Nat) (I : z_I), j + m = 8 → Q none K (fun a => if a = b then (fun k => if j ≤ k ∧ k < 8 then -1 else I a k) else I a) L → Z n0 xX0_init (d + 1) 0 0 67 [(0, .ref (n0 + o)), (1, .int p0), (2, .int (nI j))] [] K I L Q := by
  intro m
  induction m with
  | zero =>
    intro j I hj h
    have : j = 8 := by omega
    subst this
    refine wl_X0_init_67 ho hc hb hbl hbs (iq (by decide) ?_)
    have e : (fun a => if a = b then (fun k => if 8 ≤ k ∧ k < 8 then -1 else I a k) else I a) = I := by
      funext a k
      split
      · show (if 8 ≤ k ∧ k < 8 then (-1 : Int32) else I a k) = I a k
        rw [if_neg (by omega)]
      · rfl
    rw [e] at h
    exact h
  | succ m ih =>
    intro j I hj h
    refine wl_X0_init_67 ho hc hb hbl hbs (ip (show nI j < nI 8 from nI_lt (by omega) (by omega)) ⟨q_inn (by omega) (by omega), ?_⟩)
    rw [← nI_succ, q_cl (by omega)]
    refine ih (j + 1) _ (by omega) ?_
    have e : (fun a => if a = b then (fun k => if j + 1 ≤ k ∧ k < 8 then -1 else zI I b j (-1) a k) else zI I b j (-1) a) = (fun a => if a = b then (fun k => if j ≤ k ∧ k < 8 then -1 else I a k) else I a) := by
      funext a k
      by_cases ha : a = b
      · simp only [if_pos ha]
        by_cases hk : j + 1 ≤ k ∧ k < 8
        · rw [if_pos hk, if_pos (by omega)]
        · rw [if_neg hk, zI_v]
          by_cases hkj : k = j
          · rw [if_pos ⟨ha, hkj⟩, if_pos (by omega)]
          · rw [if_neg (fun q => hkj q.2), if_neg (by omega)]
      · simp only [if_neg ha]
        rw [zI_r ha]
    rw [e]
    exact h
