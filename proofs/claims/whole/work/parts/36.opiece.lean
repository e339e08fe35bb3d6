section OPC
variable {n0 d : Nat} {K : z_K} {I : z_I} {L : z_L} {np : Nat} {pid pts : Nat → Nat} {p0 p1 p2 : Int32} {P : z_K → z_I → z_L → Prop}
def pcI (I : z_I) (np : Nat) (p0 p1 p2 : Int32) : z_I := zI (zI (zI (zI I 66 np p0) 67 np p1) 68 np p2) 59 9 (nI (np + 1))
theorem c12_pieceT {pr : Option Nat} (hC : CLay K) (hM : MLay K) (h152 : 152 ≤ K.1) (hN : PcN I np pid pts) (h16 : np ≤ 16) (hr : ∀ k, 1 ≤ k → k ≤ 7 → P K (rfI I k) L)
    (hg : ∀ (K1 : z_K) (I1 : z_I) (L1 : z_L) (q : z_q), MLay K1 → RE I1 I → pcT n0 (d + 1) K1 I1 L1 np q p0 p1 p2 → RM0 n0 xX13_piece (d + 2) [.ref (n0 + 59), .int p0, .int p1, .int p2] K1 I1 L1 q)
    (hs : np < 16 → 3 ≤ p1.toInt → p1.toInt ≤ 10 → ∀ K' I' L', Ext K K' I I' L L' K.1 7 → PcB K' I' K.1 (nI np) p0 p1 (if p0 = 3 then pr else none) → P (zR K' 4 np (some K.1)) (pcI (zI I' 0 8 (nI (np + 1))) np p0 p1 p2) L') :
    RM0 n0 xX12_outside (d + 1) [.int p1, .int 3, .int 10] K I L (fun vv I11 L12 => ∃ r13 : Int32, vv = some (.int r13) ∧ (if r13 = 0 then (if ((I11 0 8) : Int32) < 16 then (∀ b19, K.1 = b19 → ∀ K16, K16 = zN K 5 0 → ∀ I17, I17 = zI0 I11 b19 → ∀ L18, L18 = zL0 L12 b19 → CLay K16 ∧ RM n0 xX5_init (d + 1) 6 60 [.ref (n0 + b19), .int (I17 0 8), .int p0, .int p1, zr n0 pr] K16 I17 L18 (fun vv K23 I21 L22 => vv = none ∧ CLay K23 ∧ vp_in (I11 0 8) 16 ∧ b19 < K23.1 ∧ (K23.2.1 b19).1 = 5 ∧ OpAQ n0 xX13_piece (d + 2) [.int p0, .int p1, .int p2] P (some (.int (I21 0 8))) (zR K23 4 ((I11 0 8).toNatClampNeg) (some b19)) (zI I21 0 8 ((I21 0 8) + 1)) L22)) else RM0 n0 xX12_refuse (d + 1) [.ref (n0 + 0), .int (-6)] K I11 L12 (fun vv I28 L29 => ∃ r30 : Int32, vv = some (.int r30) ∧ OpAQ n0 xX13_piece (d + 2) [.int p0, .int p1, .int p2] P (some (.int r30)) K I28 L29)) else RM0 n0 xX12_refuse (d + 1) [.ref (n0 + 0), .int r13] K I11 L12 (fun vv I31 L32 => ∃ r33 : Int32, vv = some (.int r33) ∧ OpAQ n0 xX13_piece (d + 2) [.int p0, .int p1, .int p2] P (some (.int r33)) K I31 L32))) := by
  have c3 : (3 : Int32).toInt = 3 := rfl
  have c10 : (10 : Int32).toInt = 10 := rfl
  refine c12_outside hC ⟨_, rfl, ?_⟩
  rcases bnd_cases p1 3 10 with ⟨e, g⟩ | ⟨e, ga, gb⟩ | ⟨e, ga, gb⟩
  · rw [e]
    exact iq (by decide) (op_rfK 4 hC (by omega) (by omega) rfl (hg _ _ _ _ hM re_rf (ip (q_lt.mpr g) (op_rr 4 hM (by omega) rfl (hr 4 (by omega) (by omega))))))
  · rw [e]
    exact iq (by decide) (op_rfK 6 hC (by omega) (by omega) rfl (hg _ _ _ _ hM re_rf (iq (fun z => by have := q_lt.mp z; omega) (ip (q_lt.mpr gb) (op_rr 6 hM (by omega) rfl (hr 6 (by omega) (by omega)))))))
  · rw [e, hN.1]
    refine ip rfl ?_
    by_cases h5 : np < 16
    · refine ip (nI_lt (b := 16) h5 (by omega)) (fun b hb2 K1 hK1 I1 hI1 L1 hL1 => ?_)
      obtain ⟨f1, f2, f3, f4, f5⟩ := z_new_ok hb2 hK1
      have e0 : I1 0 8 = nI np := by rw [(zI0_ok hI1).1 0 (by omega)]; exact hN.1
      rw [e0]
      refine ⟨hC.ext (by omega) (fun a ha => f3 a (by omega)) (fun a ha => f4 a (by omega)), c5_init hb2 hK1 hI1 hL1 (fun K' I' L' hE hPc => ?_)⟩
      have hE' := hE
      obtain ⟨x1, x2, x3, x4, x5, x6⟩ := hE
      have hC2 : CLay K' := hC.ext (by omega) (fun a ha => x3 a (by omega)) (fun a ha => x4 a (by omega))
      have hM2 : MLay K' := hM.ext (by omega) (fun a ha => x3 a (by omega)) (x4 59 (by omega))
      have y0 : I' 0 8 = nI np := by rw [x5 0 (by omega)]; exact hN.1
      rw [y0, q_cl (by omega), ← nI_succ]
      have hre : RE (zI I' 0 8 (nI (np + 1))) I := fun a h1 h2 => by rw [zI_r (by omega), x5 a (by omega)]
      refine ⟨rfl, hC2, q_inn (by omega) (by omega), by omega, hPc.1, _, rfl, hg _ _ _ _ (hM2.zR (by omega)) hre (iq (fun z => by have := q_lt.mp z; omega) (iq (fun z => by have := q_lt.mp z; omega) (iq (by omega) ⟨rfl, ?_⟩)))⟩
      subst hb2
      exact hs h5 ga gb K' I' L' hE' hPc
    · have : np = 16 := by omega
      subst this
      exact iq (by decide) (op_rfK 6 hC (by omega) (by omega) rfl (hg _ _ _ _ hM re_rf (iq (fun z => by have := q_lt.mp z; omega) (iq (fun z => by have := q_lt.mp z; omega) (ip rfl (op_rr 6 hM (by omega) rfl (hr 6 (by omega) (by omega))))))))
theorem op_piece (hC : CLay K) (hM : MLay K) (h152 : 152 ≤ K.1) (hP : PcK K np pid) (hN : PcN I np pid pts) (hk : ∀ i, i < np → I (pid i) 1 = I 66 i) (hr : ∀ k, 1 ≤ k → k ≤ 7 → P K (rfI I k) L)
    (hs : np < 16 → 3 ≤ p1.toInt → p1.toInt ≤ 10 → ∀ blk, ((p0 = 3 ∧ ∃ i, i < np ∧ p2 = nI i ∧ blk = some (pid i) ∧ (I 66 i = 0 ∨ I 66 i = 3)) ∨ (0 ≤ p0.toInt ∧ p0.toInt < 3 ∧ p2 = -1 ∧ blk = none)) → ∀ K' I' L', Ext K K' I I' L L' K.1 7 → PcB K' I' K.1 (nI np) p0 p1 blk → P (zR K' 4 np (some K.1)) (pcI (zI I' 0 8 (nI (np + 1))) np p0 p1 p2) L') :
    OpA n0 xX12_piece xX13_piece (d + 2) (d + 2) 7 71 [.int p0, .int p1, .int p2] K I L P := by
  have hnp := hP.n
  have c3 : (3 : Int32).toInt = 3 := rfl
  have c0 : (0 : Int32).toInt = 0 := rfl
  by_cases h1 : p0 < 0
  · exact wp_X12_piece hC (ip h1 (op_rfK 2 hC (by omega) (by omega) rfl (c13_piece hM (hN.n' re_rf) hnp (ip (by have := q_lt.mp h1; omega) (op_rr 2 hM (by omega) rfl (hr 2 (by omega) (by omega)))))))
  by_cases h2 : 3 < p0
  · exact wp_X12_piece hC (iq h1 (ip h2 (op_rfK 2 hC (by omega) (by omega) rfl (c13_piece hM (hN.n' re_rf) hnp (ip (by have := q_lt.mp h2; omega) (op_rr 2 hM (by omega) rfl (hr 2 (by omega) (by omega))))))))
  have g0 : 0 ≤ p0.toInt ∧ p0.toInt ≤ 3 := by have := mt q_lt.mpr h1; have := mt q_lt.mpr h2; omega
  by_cases h3 : p0 = 3
  · by_cases g2 : 0 ≤ p2.toInt ∧ p2.toInt < np
    · obtain ⟨i, rfl, hi1, ei⟩ := q_of g2.1
      have hi : i < np := by omega
      have hlt := hP.lt hi
      refine wp_X12_piece hC (iq h1 (iq h2 (c12_pieceOf_t hC hP hN.1 hi ⟨_, rfl, ip h3 (oss ⟨by omega, hP.cls hi, wp_X5_lends ⟨by omega, hP.cls hi, _, rfl, ?_⟩⟩)⟩)))
      rw [hk i hi]
      by_cases kk : I 66 i = 0 ∨ I 66 i = 3
      · have e1 : (if ((I 66 i) : Int32) = 0 then (1 : Int32) else if ((I 66 i) : Int32) = 3 then 1 else 0) = 1 := by
          rcases kk with k | k
          · rw [if_pos k]
          · rw [k]; rfl
        rw [e1]
        refine iq (by decide) (ip h3 (c12_pieceT (pr := some (pid i)) hC hM h152 hN hnp hr (fun K1 I1 L1 q hM1 hre hT => c13_piece hM1 (hN.n' hre) hnp (iq (fun z => z g0) (ip h3 (iq (fun z => z g2) (ip ?_ hT))))) (fun h5 ga gb K' I' L' hE hPc => ?_)))
        · rw [q_cl (by omega), hre 66 (by omega) (by omega)]; exact kk
        · rw [if_pos h3] at hPc
          exact hs h5 ga gb _ (Or.inl ⟨h3, i, hi, rfl, rfl, kk⟩) K' I' L' hE hPc
      · have e1 : (if ((I 66 i) : Int32) = 0 then (1 : Int32) else if ((I 66 i) : Int32) = 3 then 1 else 0) = 0 := by
          rw [if_neg (fun z => kk (Or.inl z)), if_neg (fun z => kk (Or.inr z))]
        rw [e1]
        refine ip rfl (op_rfK 1 hC (by omega) (by omega) rfl (c13_piece hM (hN.n' re_rf) hnp (iq (fun z => z g0) (ip h3 (iq (fun z => z g2) (iq ?_ (op_rr 1 hM (by omega) rfl (hr 1 (by omega) (by omega)))))))))
        rw [q_cl (by omega), re_rf 66 (by omega) (by omega)]; exact kk
    · exact wp_X12_piece hC (iq h1 (iq h2 (c12_pieceOf_f hC hP hN.1 g2 ⟨_, rfl, ip h3 (osn (op_rfK 1 hC (by omega) (by omega) rfl (c13_piece hM (hN.n' re_rf) hnp (iq (fun z => z g0) (ip h3 (ip g2 (op_rr 1 hM (by omega) rfl (hr 1 (by omega) (by omega)))))))))⟩)))
  · have tl := fun (r8 : Option Nat) (hm : p2 = -1) => c12_pieceT (n0 := n0) (d := d) (p0 := p0) (p1 := p1) (p2 := p2) (pr := r8) hC hM h152 hN hnp hr (fun K1 I1 L1 q hM1 hre hT => c13_piece hM1 (hN.n' hre) hnp (iq (fun z => z g0) (iq h3 (ip hm hT)))) (fun h5 ga gb K' I' L' hE hPc => by
      rw [if_neg h3] at hPc
      exact hs h5 ga gb _ (Or.inr ⟨g0.1, by have := mt q_eq.mpr h3; omega, hm, rfl⟩) K' I' L' hE hPc)
    have ng : ∀ {x : Int32}, ¬ x = -1 → OpR n0 xX13_piece (d + 2) [.int p0, .int p1, .int x] K (zI I 1 3 (I 1 3 + 1)) L (P K) (-3) := fun hm => c13_piece hM (hN.n' re_rf) hnp (iq (fun z => z g0) (iq h3 (iq hm (op_rr 3 hM (by omega) rfl (hr 3 (by omega) (by omega))))))
    by_cases hm : p2 = -1
    · refine wp_X12_piece hC (iq h1 (iq h2 (c12_pieceOf_f hC hP hN.1 (by rw [hm]; show ¬ ((0 : Int) ≤ -1 ∧ _); omega) ⟨_, rfl, iq h3 (iq h3 (ip hm (tl _ hm)))⟩)))
    · by_cases g2 : 0 ≤ p2.toInt ∧ p2.toInt < np
      · obtain ⟨i, rfl, hi1, ei⟩ := q_of g2.1
        exact wp_X12_piece hC (iq h1 (iq h2 (c12_pieceOf_t hC hP hN.1 (by omega) ⟨_, rfl, iq h3 (iq h3 (iq hm (op_rfK 3 hC (by omega) (by omega) rfl (ng hm))))⟩)))
      · exact wp_X12_piece hC (iq h1 (iq h2 (c12_pieceOf_f hC hP hN.1 g2 ⟨_, rfl, iq h3 (iq h3 (iq hm (op_rfK 3 hC (by omega) (by omega) rfl (ng hm))))⟩)))
end OPC
