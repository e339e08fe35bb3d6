section TRL
variable {n0 d dr dd : Nat} {K : z_K} {I : z_I} {L : z_L} {P : z_I → z_L → Prop} {Q : z_q} {np nb nt : Nat} {pid bid pts tc : Nat → Nat}
theorem c0_addTrial {o t : Nat} {p0 p1 p2 : Int32} (ho : o + 7 < K.1) (hc : (K.2.1 o).1 = 0) (s5 : K.2.1 (o + 5) = (20, 30)) (s6 : K.2.1 (o + 6) = (20, 30)) (s7 : K.2.1 (o + 7) = (20, 30)) (r5 : K.2.2 o 6 = some (o + 5)) (r6 : K.2.2 o 7 = some (o + 6)) (r7 : K.2.2 o 8 = some (o + 7)) (ht : I o 9 = nI t) (hb : t < 30) (h : Q none (zI (zI (zI (zI I (o + 5) t p0) (o + 6) t p1) (o + 7) t p2) o 9 (nI (t + 1))) L) : RM0 n0 xX0_addTrial d [.ref (n0 + o), .int p0, .int p1, .int p2] K I L Q := by
  have e1 : ∀ v : Int32, (zI I (o + 5) t v) o 9 = nI t := fun v => by rw [zI_r (by omega), ht]
  have e2 : ∀ v w : Int32, (zI (zI I (o + 5) t v) (o + 6) t w) o 9 = nI t := fun v w => by rw [zI_r (by omega), e1]
  have e3 : ∀ v w u : Int32, (zI (zI (zI I (o + 5) t v) (o + 6) t w) (o + 7) t u) o 9 = nI t := fun v w u => by rw [zI_r (by omega), e2]
  have hcl : (nI t).toNatClampNeg = t := q_cl (by omega)
  refine wp_X0_addTrial ⟨by omega, hc, ?_⟩
  rw [ht, hcl]
  refine ip (nI_lt (b := 30) hb (by omega)) ⟨_, r5, 30, by omega, s5, q_inn hb (by omega), _, r6, 30, by omega, s6, ?_⟩
  rw [e1, hcl]
  refine ⟨q_inn hb (by omega), _, r7, 30, by omega, s7, ?_⟩
  rw [e2, hcl]
  refine ⟨q_inn hb (by omega), ?_⟩
  rw [e3, ← nI_succ]
  exact h
theorem q_key {i j k : Nat} : (((nI i * 10) + nI j) * 10 + nI k) = nI ((i * 10 + j) * 10 + k) := by
  rw [show (10 : Int32) = nI 10 from rfl, q_nmul, q_nadd, q_nmul, q_nadd]
theorem op_trial {p b k l v w : Int32} (hC : CLay K) (hM : MLay K) (hP : PcK K np pid) (hN : PcN I np pid pts) (hB : BdK K nb bid) (hBN : BdN I nb) (hn : I 0 6 = nI nt) (hn2 : I 59 107 = nI nt) (h30 : nt ≤ 30) (ht : ∀ i, i < nb → I (bid i) 9 = nI (tc i) ∧ tc i ≤ nt) (hr : ∀ k, 1 ≤ k → k ≤ 7 → P (rfI I k) L)
    (hs : ∀ i j m c, i < np → j < pts i → m < pts i → c < nb → nt < 30 → p = nI i → k = nI j → l = nI m → b = nI c → 0 ≤ v.toInt → v.toInt ≤ 99999 → 0 ≤ w.toInt → w.toInt ≤ 999 →
      P (zI (zI (zI (zI (zI (zI (zI (zI (zI (zI (zI (zI I (bid c + 5) (tc c) (nI ((i * 10 + j) * 10 + m))) (bid c + 6) (tc c) (v - w)) (bid c + 7) (tc c) (v + w)) (bid c) 9 (nI (tc c + 1))) 0 6 (nI (nt + 1))) 133 nt (nI i)) 134 nt (nI c)) 135 nt (nI j)) 136 nt (nI m)) 137 nt (v - w)) 138 nt (v + w)) 59 107 (nI (nt + 1))) L) : Op0 n0 xX12_trial xX13_trial (d + 2) (d + 3) [.int p, .int b, .int k, .int l, .int v, .int w] K I L P := by
  have hnp := hP.n
  have hnb := hB.n
  by_cases g : isPt np pts p k
  · obtain ⟨i, j, rfl, rfl, hi, hj⟩ := isPt_of hnp g
    have hlt := hP.lt hi
    have hge := hP.ge hi
    have hpj := (hN.m i hi).2
    refine wp_X12_trial hC (c12_pieceWith_t hC hP hN.1 hN.c hi hj ⟨_, rfl, ?_⟩)
    by_cases gl : 0 ≤ l.toInt ∧ l.toInt < pts i
    · obtain ⟨m, rfl, hm1, em⟩ := q_of gl.1
      have hm : m < pts i := by omega
      have hbl : bI (0 ≤ (nI m).toInt ∧ (nI m).toInt < pts i) = 1 := bI_t gl
      by_cases gb : 0 ≤ b.toInt ∧ b.toInt < nb
      · obtain ⟨c, rfl, hc1, ec⟩ := q_of gb.1
        have hc : c < nb := by omega
        have hbb : bI (0 ≤ (nI c).toInt ∧ (nI c).toInt < nb) = 1 := bI_t gb
        refine c12_bodyOf_t hC hB hBN.1 hc ⟨_, rfl, oss ⟨by omega, hP.cls hi, c5_has (by omega) (hP.cls hi) (hN.c i hi).1 hpj ⟨_, rfl, ?_⟩⟩⟩
        rw [hbl]
        refine iq (by decide) (oss ?_)
        -- the reference up to its own bounds
        have hrr : ∀ {q : z_q} {I' : z_I}, RE I' I → (if v < 0 then RM0 n0 xX13_refuse (d + 2) [.ref (n0 + 59), .int (-4)] K I' L (fun vv I1 L1 => ∃ r : Int32, vv = some (.int r) ∧ q (some (.int r)) I1 L1) else if w < 0 then RM0 n0 xX13_refuse (d + 2) [.ref (n0 + 59), .int (-4)] K I' L (fun vv I1 L1 => ∃ r : Int32, vv = some (.int r) ∧ q (some (.int r)) I1 L1) else if 99999 < v then RM0 n0 xX13_refuse (d + 2) [.ref (n0 + 59), .int (-6)] K I' L (fun vv I1 L1 => ∃ r : Int32, vv = some (.int r) ∧ q (some (.int r)) I1 L1) else if 999 < w then RM0 n0 xX13_refuse (d + 2) [.ref (n0 + 59), .int (-6)] K I' L (fun vv I1 L1 => ∃ r : Int32, vv = some (.int r) ∧ q (some (.int r)) I1 L1) else if nt = 30 then RM0 n0 xX13_refuse (d + 2) [.ref (n0 + 59), .int (-6)] K I' L (fun vv I1 L1 => ∃ r : Int32, vv = some (.int r) ∧ q (some (.int r)) I1 L1) else q (some (.int (nI (nt + 1)))) (zI (zI (zI (zI (zI (zI (zI I' 133 nt (nI i)) 134 nt (nI c)) 135 nt (nI j)) 136 nt (nI m)) 137 nt (v - w)) 138 nt (v + w)) 59 107 (nI (nt + 1))) L) → RM0 n0 xX13_trial (d + 3) [.ref (n0 + 59), .int (nI i), .int (nI c), .int (nI j), .int (nI m), .int v, .int w] K I' L q := by
          intro q I' hre h
          have y : I' 59 107 = nI nt := by rw [hre 59 (by omega) (by omega)]; exact hn2
          refine wp_X13_trial hM (c13_isPoint_t hM (hN.n' hre) hnp (hN.m' hre) hi hj ⟨_, rfl, iq (by decide) (c13_isPoint_t hM (hN.n' hre) hnp (hN.m' hre) hi hm ⟨_, rfl, iq (by decide) (c13_isBody hM (hBN.m' hre) (by omega) ⟨_, rfl, ?_⟩)⟩)⟩)
          rw [hbb]
          refine iq (by decide) ?_
          rw [y]
          by_cases h1 : v < 0
          · rw [if_pos h1] at h ⊢; exact h
          · rw [if_neg h1] at h ⊢
            by_cases h2 : w < 0
            · rw [if_pos h2] at h ⊢; exact h
            · rw [if_neg h2] at h ⊢
              by_cases h3 : 99999 < v
              · rw [if_pos h3] at h ⊢; exact h
              · rw [if_neg h3] at h ⊢
                by_cases h4 : 999 < w
                · rw [if_pos h4] at h ⊢; exact h
                · rw [if_neg h4] at h ⊢
                  by_cases h5 : nt = 30
                  · rw [if_pos h5] at h
                    rw [if_pos (by rw [h5]; rfl)]; exact h
                  · rw [if_neg h5] at h
                    rw [if_neg (fun z => h5 (by have := q_eq.mp z; rw [q_nI (by omega)] at this; have e2' : (30 : Int32).toInt = 30 := rfl; omega)), q_cl (by omega), ← nI_succ]
                    exact ⟨q_inn (by omega) (by omega), h⟩
        by_cases h1 : v < 0
        · refine ip h1 (op_rf 4 hC (by omega) (by omega) rfl (hrr re_rf (ip h1 (op_rr 4 hM (by omega) rfl (hr 4 (by omega) (by omega))))))
        · refine iq h1 ?_
          by_cases h2 : w < 0
          · exact ip h2 (op_rf 4 hC (by omega) (by omega) rfl (hrr re_rf (iq h1 (ip h2 (op_rr 4 hM (by omega) rfl (hr 4 (by omega) (by omega)))))))
          · refine iq h2 ?_
            by_cases h3 : 99999 < v
            · exact ip h3 (op_rf 6 hC (by omega) (by omega) rfl (hrr re_rf (iq h1 (iq h2 (ip h3 (op_rr 6 hM (by omega) rfl (hr 6 (by omega) (by omega))))))))
            · refine iq h3 ?_
              by_cases h4 : 999 < w
              · exact ip h4 (op_rf 6 hC (by omega) (by omega) rfl (hrr re_rf (iq h1 (iq h2 (iq h3 (ip h4 (op_rr 6 hM (by omega) rfl (hr 6 (by omega) (by omega)))))))))
              · refine iq h4 ?_
                rw [hn]
                by_cases h5 : nt < 30
                · have hbl2 := hB.lt hc
                  have hbg := hB.ge hc
                  have hs' := hB.s hc
                  have hr' := hB.r hc
                  refine ip (nI_lt (b := 30) h5 (by omega)) (wp_X12_trialKey hC ⟨_, rfl, by omega, hB.cls hc, c0_addTrial hbl2 (hB.cls hc) hs'.2.2.2.2.1 hs'.2.2.2.2.2.1 hs'.2.2.2.2.2.2 hr'.2.2.2.2.1 hr'.2.2.2.2.2.1 hr'.2.2.2.2.2.2 (ht c hc).1 (by have := (ht c hc).2; omega) ⟨rfl, ?_⟩⟩)
                  rw [zI_r (by omega), zI_r (by omega), zI_r (by omega), zI_r (by omega), hn, ← nI_succ, q_key]
                  refine ⟨_, rfl, hrr ((((RE.rf.z (Or.inr (by omega))).z (Or.inr (by omega))).z (Or.inr (by omega))).z (Or.inr (by omega)) |>.z (Or.inl (by omega))) (iq h1 (iq h2 (iq h3 (iq h4 (iq (by omega) ⟨rfl, hs i j m c hi hj hm hc h5 rfl rfl rfl rfl ?_ ?_ ?_ ?_⟩)))))⟩
                  · have := mt q_lt.mpr h1; have e2' : (0 : Int32).toInt = 0 := rfl; omega
                  · have := mt q_lt.mpr h3; have e2' : (99999 : Int32).toInt = 99999 := rfl; omega
                  · have := mt q_lt.mpr h2; have e2' : (0 : Int32).toInt = 0 := rfl; omega
                  · have := mt q_lt.mpr h4; have e2' : (999 : Int32).toInt = 999 := rfl; omega
                · have : nt = 30 := by omega
                  subst this
                  exact iq (by decide) (op_rf 6 hC (by omega) (by omega) rfl (hrr re_rf (iq h1 (iq h2 (iq h3 (iq h4 (ip rfl (op_rr 6 hM (by omega) rfl (hr 6 (by omega) (by omega))))))))))
      · refine c12_bodyOf_f hC hB hBN.1 gb ⟨_, rfl, oss ⟨by omega, hP.cls hi, c5_has (by omega) (hP.cls hi) (hN.c i hi).1 hpj ⟨_, rfl, ?_⟩⟩⟩
        rw [hbl]
        refine iq (by decide) (osn (op_rf 1 hC (by omega) (by omega) rfl (wp_X13_trial hM (c13_isPoint_t hM (hN.n' re_rf) hnp (hN.m' re_rf) hi hj ⟨_, rfl, iq (by decide) (c13_isPoint_t hM (hN.n' re_rf) hnp (hN.m' re_rf) hi hm ⟨_, rfl, iq (by decide) (c13_isBody hM (hBN.m' re_rf) (by omega) ⟨_, rfl, ?_⟩)⟩)⟩))))
        rw [bI_f gb]
        exact ip rfl (op_rr 1 hM (by omega) rfl (hr 1 (by omega) (by omega)))
    · have gl' : ¬ isPt np pts (nI i) l := fun z => by
        obtain ⟨i', m, e1, e2, hi', hm⟩ := isPt_of hnp z
        have : i = i' := by have := congrArg Int32.toInt e1; rw [q_nI (by omega), q_nI (by omega)] at this; omega
        subst this
        apply gl
        rw [e2, q_nI (by omega)]
        omega
      have hbl : bI (0 ≤ l.toInt ∧ l.toInt < pts i) = 0 := bI_f gl
      by_cases gb : 0 ≤ b.toInt ∧ b.toInt < nb
      · obtain ⟨c, rfl, hc1, ec⟩ := q_of gb.1
        refine c12_bodyOf_t hC hB hBN.1 (show c < nb by omega) ⟨_, rfl, oss ⟨by omega, hP.cls hi, c5_has (by omega) (hP.cls hi) (hN.c i hi).1 hpj ⟨_, rfl, ?_⟩⟩⟩
        rw [hbl]
        exact ip rfl (op_rf 1 hC (by omega) (by omega) rfl (wp_X13_trial hM (c13_isPoint_t hM (hN.n' re_rf) hnp (hN.m' re_rf) hi hj ⟨_, rfl, iq (by decide) (c13_isPoint_f hM (hN.n' re_rf) hnp (hN.m' re_rf) gl' ⟨_, rfl, ip rfl (op_rr 1 hM (by omega) rfl (hr 1 (by omega) (by omega)))⟩)⟩)))
      · refine c12_bodyOf_f hC hB hBN.1 gb ⟨_, rfl, oss ⟨by omega, hP.cls hi, c5_has (by omega) (hP.cls hi) (hN.c i hi).1 hpj ⟨_, rfl, ?_⟩⟩⟩
        rw [hbl]
        exact ip rfl (op_rf 1 hC (by omega) (by omega) rfl (wp_X13_trial hM (c13_isPoint_t hM (hN.n' re_rf) hnp (hN.m' re_rf) hi hj ⟨_, rfl, iq (by decide) (c13_isPoint_f hM (hN.n' re_rf) hnp (hN.m' re_rf) gl' ⟨_, rfl, ip rfl (op_rr 1 hM (by omega) rfl (hr 1 (by omega) (by omega)))⟩)⟩)))
  · refine wp_X12_trial hC (c12_pieceWith_f hC hP hN.1 hN.c g ⟨_, rfl, ?_⟩)
    by_cases gb : 0 ≤ b.toInt ∧ b.toInt < nb
    · obtain ⟨c, rfl, hc1, ec⟩ := q_of gb.1
      exact c12_bodyOf_t hC hB hBN.1 (show c < nb by omega) ⟨_, rfl, osn (op_rf 1 hC (by omega) (by omega) rfl (wp_X13_trial hM (c13_isPoint_f hM (hN.n' re_rf) hnp (hN.m' re_rf) g ⟨_, rfl, ip rfl (op_rr 1 hM (by omega) rfl (hr 1 (by omega) (by omega)))⟩)))⟩
    · exact c12_bodyOf_f hC hB hBN.1 gb ⟨_, rfl, osn (op_rf 1 hC (by omega) (by omega) rfl (wp_X13_trial hM (c13_isPoint_f hM (hN.n' re_rf) hnp (hN.m' re_rf) g ⟨_, rfl, ip rfl (op_rr 1 hM (by omega) rfl (hr 1 (by omega) (by omega)))⟩)))⟩
end TRL
