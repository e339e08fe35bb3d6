theorem dJ7_copyOfRange_feecc_0 : decode cJ7_copyOfRange_feecc 0 = .ok (.iload_n 1, 1) := by decide +kernel
theorem dJ7_copyOfRange_feecc_1 : decode cJ7_copyOfRange_feecc 1 = .ok (.ifCond .ne 9, 3) := by decide +kernel
theorem dJ7_copyOfRange_feecc_4 : decode cJ7_copyOfRange_feecc 4 = .ok (.iload_n 2, 1) := by decide +kernel
theorem dJ7_copyOfRange_feecc_5 : decode cJ7_copyOfRange_feecc 5 = .ok (.aload_n 0, 1) := by decide +kernel
theorem dJ7_copyOfRange_feecc_6 : decode cJ7_copyOfRange_feecc 6 = .ok (.arraylength, 1) := by decide +kernel
theorem dJ7_copyOfRange_feecc_7 : decode cJ7_copyOfRange_feecc 7 = .ok (.if_icmp .eq 10, 3) := by decide +kernel
theorem dJ7_copyOfRange_feecc_10 : decode cJ7_copyOfRange_feecc 10 = .ok (.aload_n 0, 1) := by decide +kernel
theorem dJ7_copyOfRange_feecc_11 : decode cJ7_copyOfRange_feecc 11 = .ok (.iload_n 1, 1) := by decide +kernel
theorem dJ7_copyOfRange_feecc_12 : decode cJ7_copyOfRange_feecc 12 = .ok (.iload_n 2, 1) := by decide +kernel
theorem dJ7_copyOfRange_feecc_13 : decode cJ7_copyOfRange_feecc 13 = .ok (.invokestatic 351, 3) := by decide +kernel
theorem dJ7_copyOfRange_feecc_16 : decode cJ7_copyOfRange_feecc 16 = .ok (.areturn, 1) := by decide +kernel
theorem dJ7_copyOfRangeInt_feecc_0 : decode cJ7_copyOfRangeInt_feecc 0 = .ok (.iload_n 1, 1) := by decide +kernel
theorem dJ7_copyOfRangeInt_feecc_1 : decode cJ7_copyOfRangeInt_feecc 1 = .ok (.iload_n 2, 1) := by decide +kernel
theorem dJ7_copyOfRangeInt_feecc_2 : decode cJ7_copyOfRangeInt_feecc 2 = .ok (.invokestatic 343, 3) := by decide +kernel
theorem dJ7_copyOfRangeInt_feecc_5 : decode cJ7_copyOfRangeInt_feecc 5 = .ok (.iload_n 2, 1) := by decide +kernel
theorem dJ7_copyOfRangeInt_feecc_6 : decode cJ7_copyOfRangeInt_feecc 6 = .ok (.iload_n 1, 1) := by decide +kernel
theorem dJ7_copyOfRangeInt_feecc_7 : decode cJ7_copyOfRangeInt_feecc 7 = .ok (.isub, 1) := by decide +kernel
theorem dJ7_copyOfRangeInt_feecc_8 : decode cJ7_copyOfRangeInt_feecc 8 = .ok (.istore_n 3, 1) := by decide +kernel
theorem dJ7_copyOfRangeInt_feecc_9 : decode cJ7_copyOfRangeInt_feecc 9 = .ok (.iload_n 3, 1) := by decide +kernel
theorem dJ7_copyOfRangeInt_feecc_10 : decode cJ7_copyOfRangeInt_feecc 10 = .ok (.newarray .int, 2) := by decide +kernel
theorem dJ7_copyOfRangeInt_feecc_12 : decode cJ7_copyOfRangeInt_feecc 12 = .ok (.astore 4, 2) := by decide +kernel
theorem dJ7_copyOfRangeInt_feecc_14 : decode cJ7_copyOfRangeInt_feecc 14 = .ok (.aload_n 0, 1) := by decide +kernel
theorem dJ7_copyOfRangeInt_feecc_15 : decode cJ7_copyOfRangeInt_feecc 15 = .ok (.iload_n 1, 1) := by decide +kernel
theorem dJ7_copyOfRangeInt_feecc_16 : decode cJ7_copyOfRangeInt_feecc 16 = .ok (.aload 4, 2) := by decide +kernel
theorem dJ7_copyOfRangeInt_feecc_18 : decode cJ7_copyOfRangeInt_feecc 18 = .ok (.iconst 0, 1) := by decide +kernel
theorem dJ7_copyOfRangeInt_feecc_19 : decode cJ7_copyOfRangeInt_feecc 19 = .ok (.aload_n 0, 1) := by decide +kernel
theorem dJ7_copyOfRangeInt_feecc_20 : decode cJ7_copyOfRangeInt_feecc 20 = .ok (.arraylength, 1) := by decide +kernel
theorem dJ7_copyOfRangeInt_feecc_21 : decode cJ7_copyOfRangeInt_feecc 21 = .ok (.iload_n 1, 1) := by decide +kernel
theorem dJ7_copyOfRangeInt_feecc_22 : decode cJ7_copyOfRangeInt_feecc 22 = .ok (.isub, 1) := by decide +kernel
theorem dJ7_copyOfRangeInt_feecc_23 : decode cJ7_copyOfRangeInt_feecc 23 = .ok (.iload_n 3, 1) := by decide +kernel
theorem dJ7_copyOfRangeInt_feecc_24 : decode cJ7_copyOfRangeInt_feecc 24 = .ok (.invokestatic 304, 3) := by decide +kernel
theorem dJ7_copyOfRangeInt_feecc_27 : decode cJ7_copyOfRangeInt_feecc 27 = .ok (.invokestatic 150, 3) := by decide +kernel
theorem dJ7_copyOfRangeInt_feecc_30 : decode cJ7_copyOfRangeInt_feecc 30 = .ok (.aload 4, 2) := by decide +kernel
theorem dJ7_copyOfRangeInt_feecc_32 : decode cJ7_copyOfRangeInt_feecc 32 = .ok (.areturn, 1) := by decide +kernel
theorem dJ7_checkLength_df160_0 : decode cJ7_checkLength_df160 0 = .ok (.iload_n 1, 1) := by decide +kernel
theorem dJ7_checkLength_df160_1 : decode cJ7_checkLength_df160 1 = .ok (.iload_n 0, 1) := by decide +kernel
theorem dJ7_checkLength_df160_2 : decode cJ7_checkLength_df160 2 = .ok (.if_icmp .ge 35, 3) := by decide +kernel
theorem dJ7_checkLength_df160_37 : decode cJ7_checkLength_df160 37 = .ok (.return_, 1) := by decide +kernel
section CPY
variable {n0 d : Nat} {K : z_K} {I : z_I} {L : z_L}
theorem q_nsub {x y : Nat} (h : x ≤ y) : nI y - nI x = nI (y - x) := by
  rw [show nI y = nI (y - x) + nI x from by rw [q_nadd, Nat.sub_add_cancel h], Int32.add_sub_cancel]
theorem wp_checkLength {Q : z_q} {x y : Int32} (h0 : ¬ y < x) (h : Q none I L) : RM0 n0 xJ7_checkLength_df160 d [.int x, .int y] K I L Q := by
  refine z_entryF0 (by decide +kernel) (Nat.le_of_ble_eq_true rfl) ?_
  change Z n0 xJ7_checkLength_df160 d 0 0 0 [(0, .int x), (1, .int y)] [] K I L (z_q0 K Q)
  refine z_iload_n 1 dJ7_checkLength_df160_0 rfl ?_
  refine z_iload_n 0 dJ7_checkLength_df160_1 rfl ?_
  refine z_icmp_ge 37 dJ7_checkLength_df160_2 (by decide) (fun g => ?_) (fun g => absurd g h0)
  exact z_vret dJ7_checkLength_df160_37 rfl ⟨rfl, h⟩
theorem wp_copyInt {Q : z_R} {a N x y rs : Nat} (ha : a < K.1) (hs : K.2.1 a = (20, N)) (hx : x ≤ y) (hy : y ≤ N) (hN : N ≤ 60) (h : Q (some (.ref (n0 + K.1))) (zN K 20 (y - x)) (zC (zI0 I K.1) a K.1 x 0 (y - x)) (zL0 L K.1)) : RM n0 xJ7_copyOfRangeInt_feecc (d + 1) 1 (rs + (y - x)) [.ref (n0 + a), .int (nI x), .int (nI y)] K I L Q := by
  refine z_entryF (by decide +kernel) (Nat.le_of_ble_eq_true rfl) ?_
  change Z n0 xJ7_copyOfRangeInt_feecc (d + 1) (0 + 1) (rs + (y - x)) 0 [(0, .ref (n0 + a)), (1, .int (nI x)), (2, .int (nI y))] [] K I L Q
  refine z_iload_n 1 dJ7_copyOfRangeInt_feecc_0 rfl ?_
  refine z_iload_n 2 dJ7_copyOfRangeInt_feecc_1 rfl ?_
  refine z_callS0 (As := [.int (nI x), .int (nI y)]) (st := []) dJ7_copyOfRangeInt_feecc_2 hy_J7_checkLength_df160 wg_718 wg_719 (Nat.le_refl _) (Nat.le_of_ble_eq_true rfl) (wp_checkLength ?_ ?_)
  · intro z
    have := q_lt.mp z
    rw [q_nI (by omega), q_nI (by omega)] at this
    omega
  refine z_iload_n 2 dJ7_copyOfRangeInt_feecc_5 rfl ?_
  refine z_iload_n 1 dJ7_copyOfRangeInt_feecc_6 rfl ?_
  refine z_isub dJ7_copyOfRangeInt_feecc_7 ?_
  rw [q_nsub hx]
  refine z_istore_n [1, 2, 3, 0] [(0, .ref (n0 + a)), (1, .int (nI x)), (2, .int (nI y)), (3, .int (nI (y - x)))] dJ7_copyOfRangeInt_feecc_8 (by decide) rfl ?_
  refine z_iload_n 3 dJ7_copyOfRangeInt_feecc_9 rfl ?_
  refine z_newaO (t := 20) (N := y - x) (rc := 0) (rs := rs) dJ7_copyOfRangeInt_feecc_10 (Or.inl ⟨rfl, rfl⟩) wg_171 (nI_pos (by omega)) (by rw [q_cl (by omega)]; omega) (q_cl (by omega)) (fun hf => ?_)
  refine z_astore [1, 2, 3, 4, 0] [(0, .ref (n0 + a)), (1, .int (nI x)), (2, .int (nI y)), (3, .int (nI (y - x))), (4, .ref (n0 + K.1))] dJ7_copyOfRangeInt_feecc_12 (by decide) rfl ?_
  refine z_aload_n 0 dJ7_copyOfRangeInt_feecc_14 rfl ?_
  refine z_iload_n 1 dJ7_copyOfRangeInt_feecc_15 rfl ?_
  refine z_aload 4 dJ7_copyOfRangeInt_feecc_16 rfl ?_
  refine z_iconst 0 dJ7_copyOfRangeInt_feecc_18 (by decide) ?_
  refine z_aload_n 0 dJ7_copyOfRangeInt_feecc_19 rfl ?_
  have ha1 : a < (zN K 20 (y - x)).1 := by show a < K.1 + 1; omega
  have hs1 : (zN K 20 (y - x)).2.1 a = (20, N) := by rw [← hs]; exact if_neg (by omega)
  have hb1 : K.1 < (zN K 20 (y - x)).1 := by show K.1 < K.1 + 1; omega
  have hsb : (zN K 20 (y - x)).2.1 K.1 = (20, y - x) := if_pos rfl
  refine z_alen (t := 20) (nI N) dJ7_copyOfRangeInt_feecc_20 ha1 hs1 rfl ?_
  refine z_iload_n 1 dJ7_copyOfRangeInt_feecc_21 rfl ?_
  refine z_isub dJ7_copyOfRangeInt_feecc_22 ?_
  rw [q_nsub (show x ≤ N by omega)]
  refine z_iload_n 3 dJ7_copyOfRangeInt_feecc_23 rfl ?_
  refine z_mmin dJ7_copyOfRangeInt_feecc_24 wg_721 (by omega) (Nat.le_of_ble_eq_true rfl) ?_
  have em : (if nI (y - x) < nI (N - x) then nI (y - x) else nI (N - x)) = nI (y - x) := by
    by_cases g : y - x < N - x
    · rw [if_pos (nI_lt g (by omega))]
    · rw [show N - x = y - x from by omega]; exact ite_self _
  rw [em]
  refine z_acopy dJ7_copyOfRangeInt_feecc_27 wg_724 wg_726 wg_725 wg_120 ha1 hs1 hb1 hsb (nI_pos (by omega)) (by decide) (nI_pos (by omega)) (by rw [q_cl (by omega), q_cl (by omega)]; omega) (by rw [q_cl (by omega)]; show 0 + _ ≤ _; omega) (by omega) ?_
  rw [q_cl (by omega), q_cl (by omega)]
  refine z_aload 4 dJ7_copyOfRangeInt_feecc_30 rfl ?_
  exact z_aret (o := some K.1) dJ7_copyOfRangeInt_feecc_32 rfl (Or.inr ⟨_, rfl⟩) h
theorem wp_copyRange {Q : z_R} {a N x y : Nat} (ha : a < K.1) (hs : K.2.1 a = (20, N)) (hx : x ≤ y) (hy : y ≤ N) (hN : N ≤ 60) (hne : ¬ (x = 0 ∧ y = N)) (h : Q (some (.ref (n0 + K.1))) (zN K 20 (y - x)) (zC (zI0 I K.1) a K.1 x 0 (y - x)) (zL0 L K.1)) : RM n0 xJ7_copyOfRange_feecc (d + 2) 1 60 [.ref (n0 + a), .int (nI x), .int (nI y)] K I L Q := by
  refine z_entryF (by decide +kernel) (Nat.le_of_ble_eq_true rfl) ?_
  change Z n0 xJ7_copyOfRange_feecc (d + 2) (0 + 1) (0 + 60) 0 [(0, .ref (n0 + a)), (1, .int (nI x)), (2, .int (nI y))] [] K I L Q
  have go : Z n0 xJ7_copyOfRange_feecc (d + 2) (0 + 1) (0 + 60) 10 [(0, .ref (n0 + a)), (1, .int (nI x)), (2, .int (nI y))] [] K I L Q := by
    refine z_aload_n 0 dJ7_copyOfRange_feecc_10 rfl ?_
    refine z_iload_n 1 dJ7_copyOfRange_feecc_11 rfl ?_
    refine z_iload_n 2 dJ7_copyOfRange_feecc_12 rfl ?_
    refine z_callS (mc1 := 1) (ms1 := 60) (d1 := d + 1) (As := [.ref (n0 + a), .int (nI x), .int (nI y)]) (st := []) dJ7_copyOfRange_feecc_13 hy_J7_copyOfRangeInt_feecc wg_715 wg_716 (Nat.le_refl _) (Nat.le_of_ble_eq_true rfl) ?_
    have hc := wp_copyInt (n0 := n0) (d := d) (I := I) (L := L) (rs := 60 - (y - x)) (Q := fun v K' I' L' => Z n0 xJ7_copyOfRange_feecc (d + 2) 0 0 16 [(0, .ref (n0 + a)), (1, .int (nI x)), (2, .int (nI y))] (v.toList ++ []) K' I' L' Q) ha hs hx hy hN (z_aret (o := some K.1) dJ7_copyOfRange_feecc_16 rfl (Or.inr ⟨_, rfl⟩) h)
    rw [show 60 - (y - x) + (y - x) = 60 from by omega] at hc
    exact hc
  refine z_iload_n 1 dJ7_copyOfRange_feecc_0 rfl ?_
  refine z_if_ne 10 dJ7_copyOfRange_feecc_1 (by decide) (fun _ => go) (fun g => ?_)
  refine z_iload_n 2 dJ7_copyOfRange_feecc_4 rfl ?_
  refine z_aload_n 0 dJ7_copyOfRange_feecc_5 rfl ?_
  refine z_alen (t := 20) (nI N) dJ7_copyOfRange_feecc_6 ha hs rfl ?_
  refine z_icmp_eq 17 dJ7_copyOfRange_feecc_7 (by decide) (fun g2 => ?_) (fun _ => go)
  exfalso
  refine hne ⟨?_, (q_ni (by omega) (by omega)).mp g2⟩
  have : nI x = nI 0 := g
  exact (q_ni (by omega) (by omega)).mp this
end CPY
