section LYS
variable {n0 d dr dd mc ms : Nat} {K : z_K} {I : z_I} {L : z_L} {P : z_K → z_I → z_L → Prop} {np nl : Nat} {pid pts : Nat → Nat}
theorem op_lays {p s : Int32} (hC : CLay K) (hM : MLay K) (hP : PcK K np pid) (hN : PcN I np pid pts) (hn : I 25 4 = nI nl) (hn2 : I 59 89 = nI nl) (hb : nl ≤ 4) (hr : ∀ k, 1 ≤ k → k ≤ 7 → P K (rfI I k) L)
    (hs : ∀ i j, i < np → j < 11 → nl < 4 → p = nI i → s = nI j → P (zR K 27 nl (some (pid i))) (zI (zI (zI (zI (zI I 28 nl (nI j)) 25 4 (nI (nl + 1))) 117 nl (nI i)) 118 nl (nI j)) 59 89 (nI (nl + 1))) L) : OpA n0 xX12_lays xX13_lays (d + 2) (d + 2) 0 0 [.int p, .int s] K I L P := by
  have hnp := hP.n
  by_cases g : 0 ≤ p.toInt ∧ p.toInt < np
  · obtain ⟨i, rfl, hi1, ei⟩ := q_of g.1
    have hi : i < np := by omega
    have hlt := hP.lt hi
    have hge := hP.ge hi
    have hbp : bI (0 ≤ (nI i).toInt ∧ (nI i).toInt < np) = 1 := bI_t g
    refine wp_X12_lays hC (c12_pieceOf_t hC hP hN.1 hi ⟨_, rfl, oss (c12_isSize hC ⟨_, rfl, ?_⟩)⟩)
    by_cases gs : 0 ≤ s.toInt ∧ s.toInt < 11
    · have hbs : bI (0 ≤ s.toInt ∧ s.toInt < 11) = 1 := bI_t gs
      rw [hbs, hn]
      refine iq (by decide) ?_
      by_cases h4 : nl < 4
      · have h4' : nI nl < 4 := nI_lt (b := 4) h4 (by omega)
        refine ip h4' (wp_X4_add hC (by
          rw [hn, q_cl (by omega), ← nI_succ]
          refine ip h4' ⟨q_inn (by omega) (by omega), by omega, hP.cls hi, _, rfl, hC.zR (by decide), _, rfl, ?_⟩
          have hre : RE (zI (zI I 28 nl s) 25 4 (nI (nl + 1))) I := (RE.rf.z (Or.inl (by omega))).z (Or.inl (by omega))
          have hM2 : MLay (zR K 27 nl (some (pid i))) := hM.zR (by omega)
          refine wp_X13_lays hM2 (c13_isPiece hM2 (hN.n' hre) (by omega) ⟨_, rfl, ?_⟩)
          rw [hbp]
          refine iq (by decide) (c13_isSize hM2 ⟨_, rfl, ?_⟩)
          rw [hbs, hre 59 (by omega) (by omega), hn2, q_cl (by omega)]
          refine iq (by decide) (iq (fun z => ?_) ⟨q_inn (by omega) (by omega), ?_⟩)
          · have := q_eq.mp z
            rw [q_nI (by omega)] at this
            have e2' : (4 : Int32).toInt = 4 := rfl
            omega
          · obtain ⟨j, rfl, hj1, ej⟩ := q_of gs.1
            rw [← nI_succ]
            exact ⟨rfl, hs i j hi (by omega) h4 rfl rfl⟩))
      · have : nl = 4 := by omega
        subst this
        refine iq (by decide) (op_rfK 6 hC (by omega) (by omega) rfl (wp_X13_lays hM (c13_isPiece hM (hN.n' re_rf) (by omega) ⟨_, rfl, ?_⟩)))
        rw [hbp]
        refine iq (by decide) (c13_isSize hM ⟨_, rfl, ?_⟩)
        rw [hbs]
        refine iq (by decide) (ip ?_ (op_rr 6 hM (by omega) rfl (hr 6 (by omega) (by omega))))
        rw [zI_r (by omega), hn2]; rfl
    · rw [bI_f gs]
      refine ip rfl (op_rfK 1 hC (by omega) (by omega) rfl (wp_X13_lays hM (c13_isPiece hM (hN.n' re_rf) (by omega) ⟨_, rfl, ?_⟩)))
      rw [hbp]
      refine iq (by decide) (c13_isSize hM ⟨_, rfl, ?_⟩)
      rw [bI_f gs]
      exact ip rfl (op_rr 1 hM (by omega) rfl (hr 1 (by omega) (by omega)))
  · refine wp_X12_lays hC (c12_pieceOf_f hC hP hN.1 g ⟨_, rfl, osn (op_rfK 1 hC (by omega) (by omega) rfl (wp_X13_lays hM (c13_isPiece hM (hN.n' re_rf) (by omega) ⟨_, rfl, ?_⟩)))⟩)
    rw [bI_f g]
    exact ip rfl (op_rr 1 hM (by omega) rfl (hr 1 (by omega) (by omega)))
end LYS
