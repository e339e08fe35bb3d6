/-! calls on points and bodies -/
section OP2
variable {n0 d dr dd : Nat} {K : z_K} {I : z_I} {L : z_L} {P : z_I → z_L → Prop} {np nb : Nat} {pid bid pts : Nat → Nat}
/-- pieces as both count them -/
def PcN (I : z_I) (np : Nat) (pid pts : Nat → Nat) : Prop := I 0 8 = nI np ∧ I 59 9 = nI np ∧ (∀ i, i < np → I (pid i) 2 = nI (pts i) ∧ I 67 i = nI (pts i) ∧ 3 ≤ pts i ∧ pts i ≤ 10)
theorem PcN.c (h : PcN I np pid pts) : ∀ i, i < np → I (pid i) 2 = nI (pts i) ∧ pts i ≤ 10 := fun i hi => ⟨(h.2.2 i hi).1, (h.2.2 i hi).2.2.2⟩
theorem PcN.m (h : PcN I np pid pts) : ∀ i, i < np → I 67 i = nI (pts i) ∧ pts i ≤ 10 := fun i hi => ⟨(h.2.2 i hi).2.1, (h.2.2 i hi).2.2.2⟩
theorem PcN.m' {I' : z_I} (h : PcN I np pid pts) (hr : RE I' I) : ∀ i, i < np → I' 67 i = nI (pts i) ∧ pts i ≤ 10 := fun i hi => by rw [hr 67 (by omega) (by omega)]; exact h.m i hi
theorem PcN.n' {I' : z_I} (h : PcN I np pid pts) (hr : RE I' I) : I' 59 9 = nI np := by rw [hr 59 (by omega) (by omega)]; exact h.2.1
theorem re_rf {k : Nat} {v : Int32} : RE (zI I 1 k v) I := RE.rf.z (Or.inl (by omega))
theorem q_tj {i j : Nat} (hi : i < 16) (hj : j < 10) : ((10 : Int32) * nI i + nI j) = nI (10 * i + j) := by
  rw [show (10 : Int32) = nI 10 from rfl, q_nmul, q_nadd]
theorem op_withdraw {p : Int32} (hC : CLay K) (hM : MLay K) (hP : PcK K np pid) (hN : PcN I np pid pts) (hg : ∀ i, i < np → I (pid i) 4 = I 69 i) (hr : ∀ k, 1 ≤ k → k ≤ 7 → P (rfI I k) L)
    (hs : ∀ i, i < np → p = nI i → I 69 i = 0 → P (zI (zI I (pid i) 4 1) 69 i 1) L) : Op0 n0 xX12_withdraw xX13_withdraw (d + 1) (d + 2) [.int p] K I L P := by
  have hnp := hP.n
  by_cases g : 0 ≤ p.toInt ∧ p.toInt < np
  · obtain ⟨i, rfl, hi1, ei⟩ := q_of g.1
    have hi : i < np := by omega
    have hlt := hP.lt hi
    have hge := hP.ge hi
    refine wp_X12_withdraw hC (c12_pieceOf_t hC hP hN.1 hi ⟨_, rfl, oss ⟨by omega, hP.cls hi, ?_⟩⟩)
    rw [hg i hi]
    have hb : bI (0 ≤ (nI i).toInt ∧ (nI i).toInt < np) = 1 := bI_t g
    by_cases g1 : I 69 i = 0
    · refine ip g1 ⟨_, rfl, ?_⟩
      have hre : RE (zI I (pid i) 4 1) I := RE.rf.z (Or.inr hge)
      refine wp_X13_withdraw hM (c13_isPiece hM (hN.n' hre) (by omega) ⟨_, rfl, ?_⟩)
      rw [hb]
      refine iq (by decide) ⟨q_inn (by omega) (by omega), ip ?_ ⟨rfl, ?_⟩⟩
      · rw [hre 69 (by omega) (by omega), q_cl (by omega)]; exact g1
      · rw [q_cl (by omega)]; exact hs i hi rfl g1
    · refine iq g1 (op_rf 3 hC (by omega) (by omega) rfl (wp_X13_withdraw hM (c13_isPiece hM (hN.n' re_rf) (by omega) ⟨_, rfl, ?_⟩)))
      rw [hb]
      refine iq (by decide) ⟨q_inn (by omega) (by omega), iq ?_ (op_rr 3 hM (by omega) rfl (hr 3 (by omega) (by omega)))⟩
      rw [re_rf 69 (by omega) (by omega), q_cl (by omega)]; exact g1
  · refine wp_X12_withdraw hC (c12_pieceOf_f hC hP hN.1 g ⟨_, rfl, osn (op_rf 1 hC (by omega) (by omega) rfl (wp_X13_withdraw hM (c13_isPiece hM (hN.n' re_rf) (by omega) ⟨_, rfl, ?_⟩)))⟩)
    rw [bI_f g]
    exact ip rfl (op_rr 1 hM (by omega) rfl (hr 1 (by omega) (by omega)))
theorem op_straight {p k : Int32} (hC : CLay K) (hM : MLay K) (hP : PcK K np pid) (hN : PcN I np pid pts) (hg : ∀ i j, i < np → j < 10 → I (pid i + 4) j = I 72 (10 * i + j)) (hr : ∀ k, 1 ≤ k → k ≤ 7 → P (rfI I k) L)
    (hs0 : ∀ i j, i < np → j < pts i → I 72 (10 * i + j) = 0 → P (zI I 72 (10 * i + j) 0) L) (hs : ∀ i j, i < np → j < pts i → ¬ I 72 (10 * i + j) = 0 → P (zI (zI I (pid i + 4) j 0) 72 (10 * i + j) 0) L) : Op0 n0 xX12_straight xX13_straight (d + 2) (d + 3) [.int p, .int k] K I L P := by
  have hnp := hP.n
  by_cases g : isPt np pts p k
  · obtain ⟨i, j, rfl, rfl, hi, hj⟩ := isPt_of hnp g
    have hlt := hP.lt hi
    have hge := hP.ge hi
    have hpj := (hN.m i hi).2
    refine wp_X12_straight hC (c12_pieceWith_t hC hP hN.1 hN.c hi hj ⟨_, rfl, oss ⟨by omega, hP.cls hi, _, (hP.r hi).2.2.2.1, 10, by omega, (hP.s hi).2.2.2.1, q_inn (by omega) (by omega), ?_⟩⟩)
    rw [q_cl (by omega), hg i j hi (by omega)]
    by_cases g1 : I 72 (10 * i + j) = 0
    · refine ip g1 ⟨_, rfl, wp_X13_straight hM (c13_isPoint_t hM hN.2.1 hnp hN.m hi hj ⟨_, rfl, iq (by decide) ?_⟩)⟩
      rw [q_tj (by omega) (by omega), q_cl (by omega)]
      refine ⟨q_inn (by omega) (by omega), ?_, hs0 i j hi hj g1⟩
      rw [g1]; rfl
    · have hre : RE (zI I (pid i + 4) j 0) I := RE.rf.z (Or.inr (by omega))
      refine iq g1 ⟨_, rfl, wp_X13_straight hM (c13_isPoint_t hM (hN.n' hre) hnp (hN.m' hre) hi hj ⟨_, rfl, iq (by decide) ?_⟩)⟩
      rw [q_tj (by omega) (by omega), q_cl (by omega)]
      refine ⟨q_inn (by omega) (by omega), ?_, hs i j hi hj g1⟩
      rw [hre 72 (by omega) (by omega), if_neg g1]
  · exact wp_X12_straight hC (c12_pieceWith_f hC hP hN.1 hN.c g ⟨_, rfl, osn (op_rf 1 hC (by omega) (by omega) rfl (wp_X13_straight hM (c13_isPoint_f hM (hN.n' re_rf) hnp (hN.m' re_rf) g ⟨_, rfl, ip rfl (op_rr 1 hM (by omega) rfl (hr 1 (by omega) (by omega)))⟩)))⟩)
end OP2
