/-! the law's loop, over any invariant -/
def OpU (n0 : Nat) (xc xr : z_X) (As : List Value) (K : z_K) (I : z_I) (L : z_L) (P : z_K → z_I → z_L → Prop) : Prop := ∃ dc dr mc ms, dc ≤ 800 ∧ dr ≤ 800 ∧ mc ≤ 8 ∧ ms ≤ 228 ∧ OpA n0 xc xr dc dr mc ms As K I L P
def OpUL (n0 : Nat) (xc xr : z_X) (As : List Value) (K : z_K) (I : z_I) (L : z_L) (P : z_K → z_I → z_L → Prop) : Prop := ∃ dc dr mc ms, dc ≤ 800 ∧ dr ≤ 800 ∧ mc ≤ 8 ∧ ms ≤ 228 ∧ OpL n0 xc xr dc dr mc ms As K I L P
theorem OpA.mono {n0 dc dr mc ms : Nat} {xc xr : z_X} {As : List Value} {K : z_K} {I : z_I} {L : z_L} {P P' : z_K → z_I → z_L → Prop} (h : OpA n0 xc xr dc dr mc ms As K I L P) (hp : ∀ K I L, P K I L → P' K I L) : OpA n0 xc xr dc dr mc ms As K I L P' :=
  RM.mono h (fun v K1 I1 L1 ⟨r, e, q⟩ => ⟨r, e, RM0.mono q (fun v I2 L2 w => ⟨w.1, hp _ _ _ w.2⟩)⟩)
theorem OpL.mono {n0 dc dr mc ms : Nat} {xc xr : z_X} {As : List Value} {K : z_K} {I : z_I} {L : z_L} {P P' : z_K → z_I → z_L → Prop} (h : OpL n0 xc xr dc dr mc ms As K I L P) (hp : ∀ K I L, P K I L → P' K I L) : OpL n0 xc xr dc dr mc ms As K I L P' :=
  RM.mono h (fun v K1 I1 L1 ⟨r, e, q⟩ => ⟨r, e, RM0.mono q (fun v I2 L2 w => ⟨w.1, hp _ _ _ w.2⟩)⟩)
theorem ZH.less {G : z_G} {n0 d rc rs pc rc' rs' : Nat} {X : z_X} {lv : List (Nat × Value)} {st : List Value} {K : z_K} {I : z_I} {L : z_L} {Q : z_R} (h1 : rc' ≤ rc) (h2 : rs' ≤ rs) (h : ZH G n0 X d rc' rs' pc lv st K I L Q) : ZH G n0 X d rc rs pc lv st K I L Q := by
  intro p l e R s m args below meth c mc ms H locs cells slots ls hC hH hS hl hc1 hc2 hr
  exact h p l e R s m args below meth c mc ms H locs cells slots ls hC hH hS hl (by omega) (by omega) hr
def opsOk (n0 : Nat) (K : z_K) (I : z_I) (L : z_L) (P : z_K → z_I → z_L → Prop) : Prop :=
  (∀ x : Nat → Int32, OpU n0 xX12_days xX13_days [.int (x 1)] K I L P) ∧
  (∀ x : Nat → Int32, OpU n0 xX12_table xX13_table [.int (x 1), .int (x 2), .int (x 3)] K I L P) ∧
  (∀ x : Nat → Int32, OpU n0 xX12_tabled xX13_tabled [.int (x 1), .int (x 2), .int (x 3)] K I L P) ∧
  (∀ x : Nat → Int32, OpU n0 xX12_body xX13_body [.int (x 1)] K I L P) ∧
  (∀ x : Nat → Int32, OpU n0 xX12_measure xX13_measure [.int (x 1), .int (x 2), .int (x 3)] K I L P) ∧
  (∀ x : Nat → Int32, OpU n0 xX12_measured xX13_measured [.int (x 1), .int (x 2)] K I L P) ∧
  (∀ x : Nat → Int32, OpU n0 xX12_piece xX13_piece [.int (x 1), .int (x 2), .int (x 3)] K I L P) ∧
  (∀ x : Nat → Int32, OpU n0 xX12_withdraw xX13_withdraw [.int (x 1)] K I L P) ∧
  (∀ x : Nat → Int32, OpU n0 xX12_feed xX13_feed [.int (x 1), .long (((x 2).toInt64 <<< ((32 : Int32).toInt64 &&& 63)) ||| ((x 3).toInt64 &&& 4294967295))] K I L P) ∧
  (∀ x : Nat → Int32, OpU n0 xX12_rule xX13_rule [.int (x 1), .int (x 2), .int (x 3)] K I L P) ∧
  (∀ x : Nat → Int32, OpU n0 xX12_quarrel xX13_quarrel [.int (x 1), .int (x 2), .int (x 3)] K I L P) ∧
  (∀ x : Nat → Int32, OpU n0 xX12_from xX13_from [.int (x 1), .int (x 2), .int (x 3)] K I L P) ∧
  (∀ x : Nat → Int32, OpU n0 xX12_grade xX13_grade [.int (x 1), .int (x 2), .int (x 3), .int (x 4)] K I L P) ∧
  (∀ x : Nat → Int32, OpU n0 xX12_alter xX13_alter [.int (x 1), .int (x 2), .int (x 3), .int (x 4), .int (x 5)] K I L P) ∧
  (∀ x : Nat → Int32, OpU n0 xX12_curve xX13_curve [.int (x 1), .int (x 2), .int (x 3), .int (x 4)] K I L P) ∧
  (∀ x : Nat → Int32, OpU n0 xX12_straight xX13_straight [.int (x 1), .int (x 2)] K I L P) ∧
  (∀ x : Nat → Int32, OpU n0 xX12_at xX13_at [.int (x 1), .int (x 2), .int (x 3), .int (x 4), .int (x 5)] K I L P) ∧
  (∀ x : Nat → Int32, OpU n0 xX12_on xX13_on [.int (x 1), .int (x 2), .int (x 3), .int (x 4)] K I L P) ∧
  (∀ x : Nat → Int32, OpU n0 xX12_length xX13_length [.int (x 1), .int (x 2), .int (x 3), .int (x 4), .int (x 5)] K I L P) ∧
  (∀ x : Nat → Int32, OpU n0 xX12_lengthOn xX13_lengthOn [.int (x 1), .int (x 2), .int (x 3), .int (x 4)] K I L P) ∧
  (∀ x : Nat → Int32, OpUL n0 xX12_area xX13_area [.int (x 1), .int (x 2), .int (x 3)] K I L P) ∧
  (∀ x : Nat → Int32, OpU n0 xX12_seam xX13_seam [.int (x 1), .int (x 2), .int (x 3), .int (x 4), .int (x 5), .int (x 6), .int (x 7), .int (x 8)] K I L P) ∧
  (∀ x : Nat → Int32, OpU n0 xX12_notch xX13_notch [.int (x 1), .int (x 2), .int (x 3)] K I L P) ∧
  (∀ x : Nat → Int32, OpU n0 xX12_gather xX13_gather [.int (x 1), .int (x 2)] K I L P) ∧
  (∀ x : Nat → Int32, OpU n0 xX12_ease xX13_ease [.int (x 1), .int (x 2), .int (x 3)] K I L P) ∧
  (∀ x : Nat → Int32, OpU n0 xX12_meets xX13_meets [.int (x 1), .int (x 2), .int (x 3)] K I L P) ∧
  (∀ x : Nat → Int32, OpU n0 xX12_lost xX13_lost [.int (x 1), .int (x 2), .int (x 3)] K I L P) ∧
  (∀ x : Nat → Int32, OpU n0 xX12_wrong xX13_wrong [.int (x 1)] K I L P) ∧
  (∀ x : Nat → Int32, OpU n0 xX12_condition xX13_condition [.int (x 1), .int (x 2), .int (x 3), .int (x 4), .int (x 5), .int (x 6), .int (x 7)] K I L P) ∧
  (∀ x : Nat → Int32, OpU n0 xX12_free xX13_free [] K I L P) ∧
  (∀ x : Nat → Int32, OpUL n0 xX12_least xX13_least [.int (x 1), .int (x 2)] K I L P) ∧
  (∀ x : Nat → Int32, OpU n0 xX12_cloth xX13_cloth [.int (x 1), .int (x 2)] K I L P) ∧
  (∀ x : Nat → Int32, OpU n0 xX12_cells xX13_cells [.int (x 1), .int (x 2), .int (x 3)] K I L P) ∧
  (∀ x : Nat → Int32, OpU n0 xX12_lays xX13_lays [.int (x 1), .int (x 2)] K I L P) ∧
  (∀ x : Nat → Int32, OpU n0 xX12_clear xX13_clear [] K I L P) ∧
  (∀ x : Nat → Int32, OpU n0 xX12_shortest xX13_shortest [.int (x 1)] K I L P) ∧
  (∀ x : Nat → Int32, OpU n0 xX12_place xX13_place [.int (x 1), .int (x 2)] K I L P) ∧
  (∀ x : Nat → Int32, OpU n0 xX12_put xX13_put [.int (x 1)] K I L P) ∧
  (∀ x : Nat → Int32, OpU n0 xX12_judge xX13_judge [] K I L P) ∧
  (∀ x : Nat → Int32, OpU n0 xX12_cut xX13_cut [.int (x 1), .int (x 2), .int (if x 3 = 0 then 0 else 1)] K I L P) ∧
  (∀ x : Nat → Int32, OpU n0 xX12_trial xX13_trial [.int (x 1), .int (x 2), .int (x 3), .int (x 4), .int (x 5), .int (x 6)] K I L P) ∧
  (∀ x : Nat → Int32, OpU n0 xX12_said xX13_said [.int (x 1), .int (x 2), .int (x 3), .int (x 4), .int (x 5)] K I L P) ∧
  (∀ x : Nat → Int32, OpU n0 xX12_edition xX13_edition [] K I L P) ∧
  (∀ x : Nat → Int32, OpU n0 xX12_holds xX13_holds [.int (x 1), .int (x 2)] K I L P) ∧
  (∀ x : Nat → Int32, OpU n0 xX12_word xX13_word [.int (x 1), .int (x 2), .int (x 3), .int (x 4)] K I L P) ∧
  (∀ x : Nat → Int32, OpU n0 xX12_firstWrong xX13_firstWrong [.int (x 1)] K I L P) ∧
  (∀ x : Nat → Int32, OpU n0 xX12_fault xX13_fault [.int (x 1)] K I L P) ∧
  (∀ x : Nat → Int32, OpU n0 xX12_order xX13_order [.int (x 1), .int (x 2)] K I L P) ∧
  (∀ x : Nat → Int32, OpU n0 xX12_marker xX13_marker [.int (x 1), .int (x 2)] K I L P) ∧
  (∀ x : Nat → Int32, OpU n0 xX12_season xX13_season [] K I L P) ∧
  (∀ x : Nat → Int32, OpU n0 xX12_often xX13_often [.int (x 1)] K I L P) ∧
  (∀ x : Nat → Int32, OpU n0 xX12_count xX13_count [.int (x 1)] K I L P)
section LOOP
variable {G : z_G} {n0 d rc rs : Nat} {K : z_K} {I : z_I} {L : z_L} {Q : z_R} {b Lx : Nat} {xs : Nat → Int32} {i : Nat}
theorem dL_law_18 : decode cL_law 18 = .ok (.iload_n 3, 1) := by decide +kernel
theorem dL_law_19 : decode cL_law 19 = .ok (.aload_n 0, 1) := by decide +kernel
theorem dL_law_20 : decode cL_law 20 = .ok (.arraylength, 1) := by decide +kernel
theorem dL_law_21 : decode cL_law 21 = .ok (.bipush 9, 2) := by decide +kernel
theorem dL_law_23 : decode cL_law 23 = .ok (.isub, 1) := by decide +kernel
theorem dL_law_24 : decode cL_law 24 = .ok (.if_icmp .gt 2324, 3) := by decide +kernel
theorem dL_law_27 : decode cL_law 27 = .ok (.aload_n 0, 1) := by decide +kernel
theorem dL_law_28 : decode cL_law 28 = .ok (.iload_n 3, 1) := by decide +kernel
theorem dL_law_29 : decode cL_law 29 = .ok (.iaload, 1) := by decide +kernel
theorem dL_law_30 : decode cL_law 30 = .ok (.bipush 63, 2) := by decide +kernel
theorem dL_law_32 : decode cL_law 32 = .ok (.iand, 1) := by decide +kernel
theorem dL_law_33 : decode cL_law 33 = .ok (.tableswitch 2309 0 51 #[223, 246, 289, 332, 355, 398, 431, 474, 497, 560, 603, 646, 689, 742, 805, 858, 891, 954, 1007, 1070, 1123, 1167, 1266, 1309, 1342, 1385, 1428, 1471, 1494, 1581, 1594, 1628, 1661, 1704, 1737, 1750, 1773, 1806, 1829, 1842, 1901, 1976, 2039, 2052, 2085, 2138, 2161, 2184, 2217, 2250, 2263, 2286], 223) := by decide +kernel
theorem dL_law_2348 : decode cL_law 2348 = .ok (.iconst 1, 1) := by decide +kernel
theorem dL_law_2349 : decode cL_law 2349 = .ok (.ireturn, 1) := by decide +kernel
theorem law_case {n : Nat} (hG : G.2.2.2 3 = (b, Lx, xs)) (hi : i + 9 ≤ Lx) (hLx : Lx ≤ 4608) (h0 : 0 < K.1) (h12 : (K.2.1 0).1 = 12) (hd : 801 ≤ d) (hn : n ≤ 63) (hskip : ZG G n0 xL_law d rc rs 18 [(0, .ref b), (1, .ref (n0 + 0)), (2, .ref (n0 + 59)), (3, .int (nI (i + 9)))] [] K I L Q) (hops : opsOk n0 K I L (fun K' I' L' => ZG G n0 xL_law d rc rs 18 [(0, .ref b), (1, .ref (n0 + 0)), (2, .ref (n0 + 59)), (3, .int (nI (i + 9)))] [] K' I' L' Q)) :
    ZH G n0 xL_law d (rc + 8) (rs + 228) 33 [(0, .ref b), (1, .ref (n0 + 0)), (2, .ref (n0 + 59)), (3, .int (nI i))] [.int (nI n)] K I L Q := by
  obtain ⟨h_days, h_table, h_tabled, h_body, h_measure, h_measured, h_piece, h_withdraw, h_feed, h_rule, h_quarrel, h_from, h_grade, h_alter, h_curve, h_straight, h_at, h_on, h_length, h_lengthOn, h_area, h_seam, h_notch, h_gather, h_ease, h_meets, h_lost, h_wrong, h_condition, h_free, h_least, h_cloth, h_cells, h_lays, h_clear, h_shortest, h_place, h_put, h_judge, h_cut, h_trial, h_said, h_edition, h_holds, h_word, h_firstWrong, h_fault, h_order, h_marker, h_season, h_often, h_count⟩ := hops
  by_cases g0 : n = 0
  · subst g0
    obtain ⟨dc, dr, mc, ms, e1, e2, e3, e4, op⟩ := h_days (fun j => xs (i + j))
    exact yh_tabIn 256 dL_law_33 (by decide) (by decide) (off := 223) rfl (by decide) (ZH.less (by omega) (by omega) (lw_days (rc := rc) (rs := rs) hG hi hLx h0 h12 (by omega) (by omega) op))
  by_cases g1 : n = 1
  · subst g1
    obtain ⟨dc, dr, mc, ms, e1, e2, e3, e4, op⟩ := h_table (fun j => xs (i + j))
    exact yh_tabIn 279 dL_law_33 (by decide) (by decide) (off := 246) rfl (by decide) (ZH.less (by omega) (by omega) (lw_table (rc := rc) (rs := rs) hG hi hLx h0 h12 (by omega) (by omega) op))
  by_cases g2 : n = 2
  · subst g2
    obtain ⟨dc, dr, mc, ms, e1, e2, e3, e4, op⟩ := h_tabled (fun j => xs (i + j))
    exact yh_tabIn 322 dL_law_33 (by decide) (by decide) (off := 289) rfl (by decide) (ZH.less (by omega) (by omega) (lw_tabled (rc := rc) (rs := rs) hG hi hLx h0 h12 (by omega) (by omega) op))
  by_cases g3 : n = 3
  · subst g3
    obtain ⟨dc, dr, mc, ms, e1, e2, e3, e4, op⟩ := h_body (fun j => xs (i + j))
    exact yh_tabIn 365 dL_law_33 (by decide) (by decide) (off := 332) rfl (by decide) (ZH.less (by omega) (by omega) (lw_body (rc := rc) (rs := rs) hG hi hLx h0 h12 (by omega) (by omega) op))
  by_cases g4 : n = 4
  · subst g4
    obtain ⟨dc, dr, mc, ms, e1, e2, e3, e4, op⟩ := h_measure (fun j => xs (i + j))
    exact yh_tabIn 388 dL_law_33 (by decide) (by decide) (off := 355) rfl (by decide) (ZH.less (by omega) (by omega) (lw_measure (rc := rc) (rs := rs) hG hi hLx h0 h12 (by omega) (by omega) op))
  by_cases g5 : n = 5
  · subst g5
    obtain ⟨dc, dr, mc, ms, e1, e2, e3, e4, op⟩ := h_measured (fun j => xs (i + j))
    exact yh_tabIn 431 dL_law_33 (by decide) (by decide) (off := 398) rfl (by decide) (ZH.less (by omega) (by omega) (lw_measured (rc := rc) (rs := rs) hG hi hLx h0 h12 (by omega) (by omega) op))
  by_cases g6 : n = 6
  · subst g6
    obtain ⟨dc, dr, mc, ms, e1, e2, e3, e4, op⟩ := h_piece (fun j => xs (i + j))
    exact yh_tabIn 464 dL_law_33 (by decide) (by decide) (off := 431) rfl (by decide) (ZH.less (by omega) (by omega) (lw_piece (rc := rc) (rs := rs) hG hi hLx h0 h12 (by omega) (by omega) op))
  by_cases g7 : n = 7
  · subst g7
    obtain ⟨dc, dr, mc, ms, e1, e2, e3, e4, op⟩ := h_withdraw (fun j => xs (i + j))
    exact yh_tabIn 507 dL_law_33 (by decide) (by decide) (off := 474) rfl (by decide) (ZH.less (by omega) (by omega) (lw_withdraw (rc := rc) (rs := rs) hG hi hLx h0 h12 (by omega) (by omega) op))
  by_cases g8 : n = 8
  · subst g8
    obtain ⟨dc, dr, mc, ms, e1, e2, e3, e4, op⟩ := h_feed (fun j => xs (i + j))
    exact yh_tabIn 530 dL_law_33 (by decide) (by decide) (off := 497) rfl (by decide) (ZH.less (by omega) (by omega) (lw_feed (rc := rc) (rs := rs) hG hi hLx h0 h12 (by omega) (by omega) op))
  by_cases g9 : n = 9
  · subst g9
    obtain ⟨dc, dr, mc, ms, e1, e2, e3, e4, op⟩ := h_rule (fun j => xs (i + j))
    exact yh_tabIn 593 dL_law_33 (by decide) (by decide) (off := 560) rfl (by decide) (ZH.less (by omega) (by omega) (lw_rule (rc := rc) (rs := rs) hG hi hLx h0 h12 (by omega) (by omega) op))
  by_cases g10 : n = 10
  · subst g10
    obtain ⟨dc, dr, mc, ms, e1, e2, e3, e4, op⟩ := h_quarrel (fun j => xs (i + j))
    exact yh_tabIn 636 dL_law_33 (by decide) (by decide) (off := 603) rfl (by decide) (ZH.less (by omega) (by omega) (lw_quarrel (rc := rc) (rs := rs) hG hi hLx h0 h12 (by omega) (by omega) op))
  by_cases g11 : n = 11
  · subst g11
    obtain ⟨dc, dr, mc, ms, e1, e2, e3, e4, op⟩ := h_from (fun j => xs (i + j))
    exact yh_tabIn 679 dL_law_33 (by decide) (by decide) (off := 646) rfl (by decide) (ZH.less (by omega) (by omega) (lw_from (rc := rc) (rs := rs) hG hi hLx h0 h12 (by omega) (by omega) op))
  by_cases g12 : n = 12
  · subst g12
    obtain ⟨dc, dr, mc, ms, e1, e2, e3, e4, op⟩ := h_grade (fun j => xs (i + j))
    exact yh_tabIn 722 dL_law_33 (by decide) (by decide) (off := 689) rfl (by decide) (ZH.less (by omega) (by omega) (lw_grade (rc := rc) (rs := rs) hG hi hLx h0 h12 (by omega) (by omega) op))
  by_cases g13 : n = 13
  · subst g13
    obtain ⟨dc, dr, mc, ms, e1, e2, e3, e4, op⟩ := h_alter (fun j => xs (i + j))
    exact yh_tabIn 775 dL_law_33 (by decide) (by decide) (off := 742) rfl (by decide) (ZH.less (by omega) (by omega) (lw_alter (rc := rc) (rs := rs) hG hi hLx h0 h12 (by omega) (by omega) op))
  by_cases g14 : n = 14
  · subst g14
    obtain ⟨dc, dr, mc, ms, e1, e2, e3, e4, op⟩ := h_curve (fun j => xs (i + j))
    exact yh_tabIn 838 dL_law_33 (by decide) (by decide) (off := 805) rfl (by decide) (ZH.less (by omega) (by omega) (lw_curve (rc := rc) (rs := rs) hG hi hLx h0 h12 (by omega) (by omega) op))
  by_cases g15 : n = 15
  · subst g15
    obtain ⟨dc, dr, mc, ms, e1, e2, e3, e4, op⟩ := h_straight (fun j => xs (i + j))
    exact yh_tabIn 891 dL_law_33 (by decide) (by decide) (off := 858) rfl (by decide) (ZH.less (by omega) (by omega) (lw_straight (rc := rc) (rs := rs) hG hi hLx h0 h12 (by omega) (by omega) op))
  by_cases g16 : n = 16
  · subst g16
    obtain ⟨dc, dr, mc, ms, e1, e2, e3, e4, op⟩ := h_at (fun j => xs (i + j))
    exact yh_tabIn 924 dL_law_33 (by decide) (by decide) (off := 891) rfl (by decide) (ZH.less (by omega) (by omega) (lw_at (rc := rc) (rs := rs) hG hi hLx h0 h12 (by omega) (by omega) op))
  by_cases g17 : n = 17
  · subst g17
    obtain ⟨dc, dr, mc, ms, e1, e2, e3, e4, op⟩ := h_on (fun j => xs (i + j))
    exact yh_tabIn 987 dL_law_33 (by decide) (by decide) (off := 954) rfl (by decide) (ZH.less (by omega) (by omega) (lw_on (rc := rc) (rs := rs) hG hi hLx h0 h12 (by omega) (by omega) op))
  by_cases g18 : n = 18
  · subst g18
    obtain ⟨dc, dr, mc, ms, e1, e2, e3, e4, op⟩ := h_length (fun j => xs (i + j))
    exact yh_tabIn 1040 dL_law_33 (by decide) (by decide) (off := 1007) rfl (by decide) (ZH.less (by omega) (by omega) (lw_length (rc := rc) (rs := rs) hG hi hLx h0 h12 (by omega) (by omega) op))
  by_cases g19 : n = 19
  · subst g19
    obtain ⟨dc, dr, mc, ms, e1, e2, e3, e4, op⟩ := h_lengthOn (fun j => xs (i + j))
    exact yh_tabIn 1103 dL_law_33 (by decide) (by decide) (off := 1070) rfl (by decide) (ZH.less (by omega) (by omega) (lw_lengthOn (rc := rc) (rs := rs) hG hi hLx h0 h12 (by omega) (by omega) op))
  by_cases g20 : n = 20
  · subst g20
    obtain ⟨dc, dr, mc, ms, e1, e2, e3, e4, op⟩ := h_area (fun j => xs (i + j))
    exact yh_tabIn 1156 dL_law_33 (by decide) (by decide) (off := 1123) rfl (by decide) (ZH.less (by omega) (by omega) (lw_area (rc := rc) (rs := rs) hG hi hLx h0 h12 (by omega) (by omega) op))
  by_cases g21 : n = 21
  · subst g21
    obtain ⟨dc, dr, mc, ms, e1, e2, e3, e4, op⟩ := h_seam (fun j => xs (i + j))
    exact yh_tabIn 1200 dL_law_33 (by decide) (by decide) (off := 1167) rfl (by decide) (ZH.less (by omega) (by omega) (lw_seam (rc := rc) (rs := rs) hG hi hLx h0 h12 (by omega) (by omega) op))
  by_cases g22 : n = 22
  · subst g22
    obtain ⟨dc, dr, mc, ms, e1, e2, e3, e4, op⟩ := h_notch (fun j => xs (i + j))
    exact yh_tabIn 1299 dL_law_33 (by decide) (by decide) (off := 1266) rfl (by decide) (ZH.less (by omega) (by omega) (lw_notch (rc := rc) (rs := rs) hG hi hLx h0 h12 (by omega) (by omega) op))
  by_cases g23 : n = 23
  · subst g23
    obtain ⟨dc, dr, mc, ms, e1, e2, e3, e4, op⟩ := h_gather (fun j => xs (i + j))
    exact yh_tabIn 1342 dL_law_33 (by decide) (by decide) (off := 1309) rfl (by decide) (ZH.less (by omega) (by omega) (lw_gather (rc := rc) (rs := rs) hG hi hLx h0 h12 (by omega) (by omega) op))
  by_cases g24 : n = 24
  · subst g24
    obtain ⟨dc, dr, mc, ms, e1, e2, e3, e4, op⟩ := h_ease (fun j => xs (i + j))
    exact yh_tabIn 1375 dL_law_33 (by decide) (by decide) (off := 1342) rfl (by decide) (ZH.less (by omega) (by omega) (lw_ease (rc := rc) (rs := rs) hG hi hLx h0 h12 (by omega) (by omega) op))
  by_cases g25 : n = 25
  · subst g25
    obtain ⟨dc, dr, mc, ms, e1, e2, e3, e4, op⟩ := h_meets (fun j => xs (i + j))
    exact yh_tabIn 1418 dL_law_33 (by decide) (by decide) (off := 1385) rfl (by decide) (ZH.less (by omega) (by omega) (lw_meets (rc := rc) (rs := rs) hG hi hLx h0 h12 (by omega) (by omega) op))
  by_cases g26 : n = 26
  · subst g26
    obtain ⟨dc, dr, mc, ms, e1, e2, e3, e4, op⟩ := h_lost (fun j => xs (i + j))
    exact yh_tabIn 1461 dL_law_33 (by decide) (by decide) (off := 1428) rfl (by decide) (ZH.less (by omega) (by omega) (lw_lost (rc := rc) (rs := rs) hG hi hLx h0 h12 (by omega) (by omega) op))
  by_cases g27 : n = 27
  · subst g27
    obtain ⟨dc, dr, mc, ms, e1, e2, e3, e4, op⟩ := h_wrong (fun j => xs (i + j))
    exact yh_tabIn 1504 dL_law_33 (by decide) (by decide) (off := 1471) rfl (by decide) (ZH.less (by omega) (by omega) (lw_wrong (rc := rc) (rs := rs) hG hi hLx h0 h12 (by omega) (by omega) op))
  by_cases g28 : n = 28
  · subst g28
    obtain ⟨dc, dr, mc, ms, e1, e2, e3, e4, op⟩ := h_condition (fun j => xs (i + j))
    exact yh_tabIn 1527 dL_law_33 (by decide) (by decide) (off := 1494) rfl (by decide) (ZH.less (by omega) (by omega) (lw_condition (rc := rc) (rs := rs) hG hi hLx h0 h12 (by omega) (by omega) op))
  by_cases g29 : n = 29
  · subst g29
    obtain ⟨dc, dr, mc, ms, e1, e2, e3, e4, op⟩ := h_free (fun j => xs (i + j))
    exact yh_tabIn 1614 dL_law_33 (by decide) (by decide) (off := 1581) rfl (by decide) (ZH.less (by omega) (by omega) (lw_free (rc := rc) (rs := rs) hG hi hLx h0 h12 (by omega) (by omega) op))
  by_cases g30 : n = 30
  · subst g30
    obtain ⟨dc, dr, mc, ms, e1, e2, e3, e4, op⟩ := h_least (fun j => xs (i + j))
    exact yh_tabIn 1627 dL_law_33 (by decide) (by decide) (off := 1594) rfl (by decide) (ZH.less (by omega) (by omega) (lw_least (rc := rc) (rs := rs) hG hi hLx h0 h12 (by omega) (by omega) op))
  by_cases g31 : n = 31
  · subst g31
    obtain ⟨dc, dr, mc, ms, e1, e2, e3, e4, op⟩ := h_cloth (fun j => xs (i + j))
    exact yh_tabIn 1661 dL_law_33 (by decide) (by decide) (off := 1628) rfl (by decide) (ZH.less (by omega) (by omega) (lw_cloth (rc := rc) (rs := rs) hG hi hLx h0 h12 (by omega) (by omega) op))
  by_cases g32 : n = 32
  · subst g32
    obtain ⟨dc, dr, mc, ms, e1, e2, e3, e4, op⟩ := h_cells (fun j => xs (i + j))
    exact yh_tabIn 1694 dL_law_33 (by decide) (by decide) (off := 1661) rfl (by decide) (ZH.less (by omega) (by omega) (lw_cells (rc := rc) (rs := rs) hG hi hLx h0 h12 (by omega) (by omega) op))
  by_cases g33 : n = 33
  · subst g33
    obtain ⟨dc, dr, mc, ms, e1, e2, e3, e4, op⟩ := h_lays (fun j => xs (i + j))
    exact yh_tabIn 1737 dL_law_33 (by decide) (by decide) (off := 1704) rfl (by decide) (ZH.less (by omega) (by omega) (lw_lays (rc := rc) (rs := rs) hG hi hLx h0 h12 (by omega) (by omega) op))
  by_cases g34 : n = 34
  · subst g34
    obtain ⟨dc, dr, mc, ms, e1, e2, e3, e4, op⟩ := h_clear (fun j => xs (i + j))
    exact yh_tabIn 1770 dL_law_33 (by decide) (by decide) (off := 1737) rfl (by decide) (ZH.less (by omega) (by omega) (lw_clear (rc := rc) (rs := rs) hG hi hLx h0 h12 (by omega) (by omega) op))
  by_cases g35 : n = 35
  · subst g35
    obtain ⟨dc, dr, mc, ms, e1, e2, e3, e4, op⟩ := h_shortest (fun j => xs (i + j))
    exact yh_tabIn 1783 dL_law_33 (by decide) (by decide) (off := 1750) rfl (by decide) (ZH.less (by omega) (by omega) (lw_shortest (rc := rc) (rs := rs) hG hi hLx h0 h12 (by omega) (by omega) op))
  by_cases g36 : n = 36
  · subst g36
    obtain ⟨dc, dr, mc, ms, e1, e2, e3, e4, op⟩ := h_place (fun j => xs (i + j))
    exact yh_tabIn 1806 dL_law_33 (by decide) (by decide) (off := 1773) rfl (by decide) (ZH.less (by omega) (by omega) (lw_place (rc := rc) (rs := rs) hG hi hLx h0 h12 (by omega) (by omega) op))
  by_cases g37 : n = 37
  · subst g37
    obtain ⟨dc, dr, mc, ms, e1, e2, e3, e4, op⟩ := h_put (fun j => xs (i + j))
    exact yh_tabIn 1839 dL_law_33 (by decide) (by decide) (off := 1806) rfl (by decide) (ZH.less (by omega) (by omega) (lw_put (rc := rc) (rs := rs) hG hi hLx h0 h12 (by omega) (by omega) op))
  by_cases g38 : n = 38
  · subst g38
    obtain ⟨dc, dr, mc, ms, e1, e2, e3, e4, op⟩ := h_judge (fun j => xs (i + j))
    exact yh_tabIn 1862 dL_law_33 (by decide) (by decide) (off := 1829) rfl (by decide) (ZH.less (by omega) (by omega) (lw_judge (rc := rc) (rs := rs) hG hi hLx h0 h12 (by omega) (by omega) op))
  by_cases g39 : n = 39
  · subst g39
    obtain ⟨dc, dr, mc, ms, e1, e2, e3, e4, op⟩ := h_cut (fun j => xs (i + j))
    exact yh_tabIn 1875 dL_law_33 (by decide) (by decide) (off := 1842) rfl (by decide) (ZH.less (by omega) (by omega) (lw_cut (rc := rc) (rs := rs) hG hi hLx h0 h12 (by omega) (by omega) op))
  by_cases g40 : n = 40
  · subst g40
    obtain ⟨dc, dr, mc, ms, e1, e2, e3, e4, op⟩ := h_trial (fun j => xs (i + j))
    exact yh_tabIn 1934 dL_law_33 (by decide) (by decide) (off := 1901) rfl (by decide) (ZH.less (by omega) (by omega) (lw_trial (rc := rc) (rs := rs) hG hi hLx h0 h12 (by omega) (by omega) op))
  by_cases g41 : n = 41
  · subst g41
    obtain ⟨dc, dr, mc, ms, e1, e2, e3, e4, op⟩ := h_said (fun j => xs (i + j))
    exact yh_tabIn 2009 dL_law_33 (by decide) (by decide) (off := 1976) rfl (by decide) (ZH.less (by omega) (by omega) (lw_said (rc := rc) (rs := rs) hG hi hLx h0 h12 (by omega) (by omega) op))
  by_cases g42 : n = 42
  · subst g42
    obtain ⟨dc, dr, mc, ms, e1, e2, e3, e4, op⟩ := h_edition (fun j => xs (i + j))
    exact yh_tabIn 2072 dL_law_33 (by decide) (by decide) (off := 2039) rfl (by decide) (ZH.less (by omega) (by omega) (lw_edition (rc := rc) (rs := rs) hG hi hLx h0 h12 (by omega) (by omega) op))
  by_cases g43 : n = 43
  · subst g43
    obtain ⟨dc, dr, mc, ms, e1, e2, e3, e4, op⟩ := h_holds (fun j => xs (i + j))
    exact yh_tabIn 2085 dL_law_33 (by decide) (by decide) (off := 2052) rfl (by decide) (ZH.less (by omega) (by omega) (lw_holds (rc := rc) (rs := rs) hG hi hLx h0 h12 (by omega) (by omega) op))
  by_cases g44 : n = 44
  · subst g44
    obtain ⟨dc, dr, mc, ms, e1, e2, e3, e4, op⟩ := h_word (fun j => xs (i + j))
    exact yh_tabIn 2118 dL_law_33 (by decide) (by decide) (off := 2085) rfl (by decide) (ZH.less (by omega) (by omega) (lw_word (rc := rc) (rs := rs) hG hi hLx h0 h12 (by omega) (by omega) op))
  by_cases g45 : n = 45
  · subst g45
    obtain ⟨dc, dr, mc, ms, e1, e2, e3, e4, op⟩ := h_firstWrong (fun j => xs (i + j))
    exact yh_tabIn 2171 dL_law_33 (by decide) (by decide) (off := 2138) rfl (by decide) (ZH.less (by omega) (by omega) (lw_firstWrong (rc := rc) (rs := rs) hG hi hLx h0 h12 (by omega) (by omega) op))
  by_cases g46 : n = 46
  · subst g46
    obtain ⟨dc, dr, mc, ms, e1, e2, e3, e4, op⟩ := h_fault (fun j => xs (i + j))
    exact yh_tabIn 2194 dL_law_33 (by decide) (by decide) (off := 2161) rfl (by decide) (ZH.less (by omega) (by omega) (lw_fault (rc := rc) (rs := rs) hG hi hLx h0 h12 (by omega) (by omega) op))
  by_cases g47 : n = 47
  · subst g47
    obtain ⟨dc, dr, mc, ms, e1, e2, e3, e4, op⟩ := h_order (fun j => xs (i + j))
    exact yh_tabIn 2217 dL_law_33 (by decide) (by decide) (off := 2184) rfl (by decide) (ZH.less (by omega) (by omega) (lw_order (rc := rc) (rs := rs) hG hi hLx h0 h12 (by omega) (by omega) op))
  by_cases g48 : n = 48
  · subst g48
    obtain ⟨dc, dr, mc, ms, e1, e2, e3, e4, op⟩ := h_marker (fun j => xs (i + j))
    exact yh_tabIn 2250 dL_law_33 (by decide) (by decide) (off := 2217) rfl (by decide) (ZH.less (by omega) (by omega) (lw_marker (rc := rc) (rs := rs) hG hi hLx h0 h12 (by omega) (by omega) op))
  by_cases g49 : n = 49
  · subst g49
    obtain ⟨dc, dr, mc, ms, e1, e2, e3, e4, op⟩ := h_season (fun j => xs (i + j))
    exact yh_tabIn 2283 dL_law_33 (by decide) (by decide) (off := 2250) rfl (by decide) (ZH.less (by omega) (by omega) (lw_season (rc := rc) (rs := rs) hG hi hLx h0 h12 (by omega) (by omega) op))
  by_cases g50 : n = 50
  · subst g50
    obtain ⟨dc, dr, mc, ms, e1, e2, e3, e4, op⟩ := h_often (fun j => xs (i + j))
    exact yh_tabIn 2296 dL_law_33 (by decide) (by decide) (off := 2263) rfl (by decide) (ZH.less (by omega) (by omega) (lw_often (rc := rc) (rs := rs) hG hi hLx h0 h12 (by omega) (by omega) op))
  by_cases g51 : n = 51
  · subst g51
    obtain ⟨dc, dr, mc, ms, e1, e2, e3, e4, op⟩ := h_count (fun j => xs (i + j))
    exact yh_tabIn 2319 dL_law_33 (by decide) (by decide) (off := 2286) rfl (by decide) (ZH.less (by omega) (by omega) (lw_count (rc := rc) (rs := rs) hG hi hLx h0 h12 (by omega) (by omega) op))
  refine yh_tabOut 2342 dL_law_33 (Or.inr (by rw [q_nI (by omega)]; omega)) (by decide) ?_
  refine yh_iinc (j := 3) (nI (i + 9)) [1, 2, 3, 0] [(0, .ref b), (1, .ref (n0 + 0)), (2, .ref (n0 + 59)), (3, .int (nI (i + 9)))] dL_law_2342 rfl q_nadd (Nat.le_of_ble_eq_true rfl) rfl ?_
  refine yh_goto 18 dL_law_2345 (by decide) ?_
  exact ZH.ofG (ZG.less (by omega) (by omega) hskip)
end LOOP
