theorem OpU.mono {n0 : Nat} {xc xr : z_X} {As : List Value} {K : z_K} {I : z_I} {L : z_L} {P P' : z_K → z_I → z_L → Prop} (h : OpU n0 xc xr As K I L P) (hp : ∀ K I L, P K I L → P' K I L) : OpU n0 xc xr As K I L P' := by
  obtain ⟨dc, dr, mc, ms, e1, e2, e3, e4, op⟩ := h
  exact ⟨dc, dr, mc, ms, e1, e2, e3, e4, op.mono hp⟩
theorem OpUL.mono {n0 : Nat} {xc xr : z_X} {As : List Value} {K : z_K} {I : z_I} {L : z_L} {P P' : z_K → z_I → z_L → Prop} (h : OpUL n0 xc xr As K I L P) (hp : ∀ K I L, P K I L → P' K I L) : OpUL n0 xc xr As K I L P' := by
  obtain ⟨dc, dr, mc, ms, e1, e2, e3, e4, op⟩ := h
  exact ⟨dc, dr, mc, ms, e1, e2, e3, e4, op.mono hp⟩
theorem opsOk.mono {n0 : Nat} {K : z_K} {I : z_I} {L : z_L} {P P' : z_K → z_I → z_L → Prop} (h : opsOk n0 K I L P) (hp : ∀ K I L, P K I L → P' K I L) : opsOk n0 K I L P' := by
  obtain ⟨h_days, h_table, h_tabled, h_body, h_measure, h_measured, h_piece, h_withdraw, h_feed, h_rule, h_quarrel, h_from, h_grade, h_alter, h_curve, h_straight, h_at, h_on, h_length, h_lengthOn, h_area, h_seam, h_notch, h_gather, h_ease, h_meets, h_lost, h_wrong, h_condition, h_free, h_least, h_cloth, h_cells, h_lays, h_clear, h_shortest, h_place, h_put, h_judge, h_cut, h_trial, h_said, h_edition, h_holds, h_word, h_firstWrong, h_fault, h_order, h_marker, h_season, h_often, h_count⟩ := h
  exact ⟨fun x => (h_days x).mono hp, fun x => (h_table x).mono hp, fun x => (h_tabled x).mono hp, fun x => (h_body x).mono hp, fun x => (h_measure x).mono hp, fun x => (h_measured x).mono hp, fun x => (h_piece x).mono hp, fun x => (h_withdraw x).mono hp, fun x => (h_feed x).mono hp, fun x => (h_rule x).mono hp, fun x => (h_quarrel x).mono hp, fun x => (h_from x).mono hp, fun x => (h_grade x).mono hp, fun x => (h_alter x).mono hp, fun x => (h_curve x).mono hp, fun x => (h_straight x).mono hp, fun x => (h_at x).mono hp, fun x => (h_on x).mono hp, fun x => (h_length x).mono hp, fun x => (h_lengthOn x).mono hp, fun x => (h_area x).mono hp, fun x => (h_seam x).mono hp, fun x => (h_notch x).mono hp, fun x => (h_gather x).mono hp, fun x => (h_ease x).mono hp, fun x => (h_meets x).mono hp, fun x => (h_lost x).mono hp, fun x => (h_wrong x).mono hp, fun x => (h_condition x).mono hp, fun x => (h_free x).mono hp, fun x => (h_least x).mono hp, fun x => (h_cloth x).mono hp, fun x => (h_cells x).mono hp, fun x => (h_lays x).mono hp, fun x => (h_clear x).mono hp, fun x => (h_shortest x).mono hp, fun x => (h_place x).mono hp, fun x => (h_put x).mono hp, fun x => (h_judge x).mono hp, fun x => (h_cut x).mono hp, fun x => (h_trial x).mono hp, fun x => (h_said x).mono hp, fun x => (h_edition x).mono hp, fun x => (h_holds x).mono hp, fun x => (h_word x).mono hp, fun x => (h_firstWrong x).mono hp, fun x => (h_fault x).mono hp, fun x => (h_order x).mono hp, fun x => (h_marker x).mono hp, fun x => (h_season x).mono hp, fun x => (h_often x).mono hp, fun x => (h_count x).mono hp⟩
theorem and63 (x : Int32) : ∃ n, n ≤ 63 ∧ x &&& 63 = nI n := by
  refine ⟨uN x % 64, by omega, ?_⟩
  apply Int32.toBitVec_inj.mp
  apply BitVec.eq_of_toNat_eq
  show uN (x &&& 63) = (Int32.ofNat (uN x % 64)).toBitVec.toNat
  rw [uN_and, show uN 63 = 63 by decide, a63, Int32.toBitVec_ofNat', BitVec.toNat_ofNat]
  omega
section LLP
variable {G : z_G} {n0 d : Nat} {b Lx : Nat} {xs : Nat → Int32}
theorem law_loop (Inv : Nat → z_K → z_I → z_L → Prop) (hG : G.2.2.2 3 = (b, Lx, xs)) (hLx : Lx ≤ 4608) (hd : 801 ≤ d)
    (hlay : ∀ c K I L, Inv c K I L → CLay K ∧ MLay K) (hmono : ∀ c K I L, Inv c K I L → Inv (c + 1) K I L) (hops : ∀ c K I L, c < 512 → Inv c K I L → opsOk n0 K I L (Inv (c + 1))) :
    ∀ m c K I L, c + m = 512 → Inv c K I L → ZG G n0 xL_law d (8 * m) (228 * m) 18 [(0, .ref b), (1, .ref (n0 + 0)), (2, .ref (n0 + 59)), (3, .int (nI (9 * c)))] [] K I L (fun v _ _ _ => v = some (.int 1)) := by
  intro m
  induction m with
  | zero =>
    intro c K I L hc hI
    have e9 : (9 : Int32).toInt = 9 := rfl
    have es : (nI Lx - 9).toInt = (Lx : Int) - 9 := by rw [q_sub (by rw [q_nI (by omega), e9]; omega) (by rw [q_nI (by omega), e9]; omega), q_nI (by omega), e9]
    refine yg_iload_n 3 dL_law_18 rfl ?_
    refine yg_aload_n 0 dL_law_19 rfl ?_
    refine yg_slen hG dL_law_20 ?_
    refine yg_bipush 9 dL_law_21 (by decide) ?_
    refine yg_isub dL_law_23 ?_
    refine yg_icmp_gt 2348 dL_law_24 (by decide) (fun _ => ?_) (fun z => ?_)
    · refine yg_iconst 1 dL_law_2348 (by decide) ?_
      exact yg_zret dL_law_2349 rfl (by decide) rfl
    · refine absurd (q_lt.mpr ?_) z
      show (nI Lx - 9).toInt < (nI (9 * c)).toInt
      rw [es, q_nI (by omega)]
      omega
  | succ m ih =>
    intro c K I L hc hI
    obtain ⟨hC, hM⟩ := hlay c K I L hI
    have e9 : (9 : Int32).toInt = 9 := rfl
    have es : (nI Lx - 9).toInt = (Lx : Int) - 9 := by rw [q_sub (by rw [q_nI (by omega), e9]; omega) (by rw [q_nI (by omega), e9]; omega), q_nI (by omega), e9]
    refine yg_iload_n 3 dL_law_18 rfl ?_
    refine yg_aload_n 0 dL_law_19 rfl ?_
    refine yg_slen hG dL_law_20 ?_
    refine yg_bipush 9 dL_law_21 (by decide) ?_
    refine yg_isub dL_law_23 ?_
    refine yg_icmp_gt 2348 dL_law_24 (by decide) (fun _ => ?_) (fun z => ?_)
    · refine yg_iconst 1 dL_law_2348 (by decide) ?_
      exact yg_zret dL_law_2349 rfl (by decide) rfl
    · have hi : 9 * c + 9 ≤ Lx := by
        refine Nat.le_of_not_lt (fun y => z (q_lt.mpr ?_))
        show (nI Lx - 9).toInt < (nI (9 * c)).toInt
        rw [es, q_nI (by omega)]
        omega
      refine yg_aload_n 0 dL_law_27 rfl ?_
      refine yg_iload_n 3 dL_law_28 rfl ?_
      refine yg_sld hG dL_law_29 (q_inn (by omega) (by omega)) ?_
      rw [q_cl (by omega)]
      refine yg_bipush 63 dL_law_30 (by decide) ?_
      refine yg_iand dL_law_32 ?_
      obtain ⟨n, hn, en⟩ := and63 (xs (9 * c))
      rw [en]
      refine ZG.ofH hM.1 hM.2.1 (ZH.less (rc' := 8 * m + 8) (rs' := 228 * m + 228) (by omega) (by omega) ?_)
      refine law_case (rc := 8 * m) (rs := 228 * m) hG hi hLx (co_0 hC).1 (co_0 hC).2 hd hn ?_ ?_
      · have := ih (c + 1) K I L (by omega) (hmono c K I L hI)
        rw [show 9 * (c + 1) = 9 * c + 9 by omega] at this
        exact this
      · refine (hops c K I L (by omega) hI).mono (fun K' I' L' h' => ?_)
        have := ih (c + 1) K' I' L' (by omega) h'
        rw [show 9 * (c + 1) = 9 * c + 9 by omega] at this
        exact this
end LLP
