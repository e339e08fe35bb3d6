section WRD
variable {n0 d dr dd : Nat} {K : z_K} {I : z_I} {L : z_L} {P : z_I → z_L → Prop} {Q : z_q} {ne : Nat} {eid lc wc : Nat → Nat}
theorem q_12j {i j : Nat} : ((12 : Int32) * nI i + nI j) = nI (12 * i + j) := by
  rw [show (12 : Int32) = nI 12 from rfl, q_nmul, q_nadd]
theorem c13_in_n {p h : Int32} {n : Nat} (hM : MLay K) (hh : h = nI n - 1) (hb : n < 2 ^ 31) (hq : Q (some (.int (bI (0 ≤ p.toInt ∧ p.toInt < n)))) I L) : RM0 n0 xX13_in d [.long p.toInt64, .long 0, .long h.toInt64] K I L Q := by
  refine c13_in hM ?_
  rw [bI_c (q := 0 ≤ p.toInt ∧ p.toInt < n) (by rw [q_i2l, hh, q_pred hb]; show (0 ≤ _ ∧ _) ↔ _; omega)]
  exact hq
theorem c13_in_2 {p : Int32} (hM : MLay K) (hq : Q (some (.int (bI (0 ≤ p.toInt ∧ p.toInt ≤ 2)))) I L) : RM0 n0 xX13_in d [.long p.toInt64, .long 0, .long 2] K I L Q := by
  refine c13_in hM ?_
  rw [bI_c (q := 0 ≤ p.toInt ∧ p.toInt ≤ 2) (by rw [q_i2l]; show (0 ≤ _ ∧ _ ≤ 2) ↔ _; omega)]
  exact hq
theorem c3_addWord {o t : Nat} {p0 p1 p2 : Int32} (ho : o + 5 < K.1) (hc : (K.2.1 o).1 = 3) (s5 : K.2.1 (o + 3) = (20, 12)) (s6 : K.2.1 (o + 4) = (20, 12)) (s7 : K.2.1 (o + 5) = (20, 12)) (r5 : K.2.2 o 4 = some (o + 3)) (r6 : K.2.2 o 5 = some (o + 4)) (r7 : K.2.2 o 6 = some (o + 5)) (ht : I o 7 = nI t) (hb : t < 12) (h : Q (some (.int (nI (t + 1)))) (zI (zI (zI (zI I (o + 3) t p0) (o + 4) t p1) (o + 5) t p2) o 7 (nI (t + 1))) L) : RM0 n0 xX3_addWord d [.ref (n0 + o), .int p0, .int p1, .int p2] K I L Q := by
  have e1 : ∀ v : Int32, (zI I (o + 3) t v) o 7 = nI t := fun v => by rw [zI_r (by omega), ht]
  have e2 : ∀ v w : Int32, (zI (zI I (o + 3) t v) (o + 4) t w) o 7 = nI t := fun v w => by rw [zI_r (by omega), e1]
  have e3 : ∀ v w u : Int32, (zI (zI (zI I (o + 3) t v) (o + 4) t w) (o + 5) t u) o 7 = nI t := fun v w u => by rw [zI_r (by omega), e2]
  have hcl : (nI t).toNatClampNeg = t := q_cl (by omega)
  refine wp_X3_addWord ⟨by omega, hc, ?_⟩
  rw [ht, hcl]
  refine ip (nI_lt (b := 12) hb (by omega)) ⟨_, r5, 12, by omega, s5, q_inn hb (by omega), _, r6, 12, by omega, s6, ?_⟩
  rw [e1, hcl]
  refine ⟨q_inn hb (by omega), _, r7, 12, by omega, s7, ?_⟩
  rw [e2, hcl]
  refine ⟨q_inn hb (by omega), ?_⟩
  rw [e3, ← nI_succ, zI_s]
  exact h
theorem op_word {e l w v : Int32} (hC : CLay K) (hM : MLay K) (hE : EdK K ne eid) (hn : I 0 18 = nI ne) (hn2 : I 59 114 = nI ne) (hl : ∀ i, i < ne → I (eid i) 3 = nI (lc i) ∧ I 140 i = nI (lc i) ∧ lc i ≤ 8) (hw : ∀ i, i < ne → I (eid i) 7 = nI (wc i) ∧ I 143 i = nI (wc i) ∧ wc i ≤ 12) (hr : ∀ k, 1 ≤ k → k ≤ 7 → P (rfI I k) L)
    (hs : ∀ i j, i < ne → j < lc i → wc i < 12 → e = nI i → l = nI j → 0 ≤ w.toInt → w.toInt ≤ 2 → 0 ≤ v.toInt → v.toInt ≤ 1000000000 →
      P (zI (zI (zI (zI (zI (zI (zI (zI I (eid i + 3) (wc i) l) (eid i + 4) (wc i) w) (eid i + 5) (wc i) v) (eid i) 7 (nI (wc i + 1))) 144 (12 * i + wc i) l) 145 (12 * i + wc i) w) 146 (12 * i + wc i) v) 143 i (nI (wc i + 1))) L) : Op0 n0 xX12_word xX13_word (d + 2) (d + 2) [.int e, .int l, .int w, .int v] K I L P := by
  have hnn := hE.1
  have h0 : (0 : Int32).toInt = 0 := rfl
  have h2 : (2 : Int32).toInt = 2 := rfl
  have h9 : (1000000000 : Int32).toInt = 1000000000 := rfl
  by_cases g : 0 ≤ e.toInt ∧ e.toInt < ne
  · obtain ⟨i, rfl, hi1, ei⟩ := q_of g.1
    have hi : i < ne := by omega
    have hbe : bI (0 ≤ (nI i).toInt ∧ (nI i).toInt < ne) = 1 := bI_t g
    obtain ⟨k0, k1, k2, k3, k4, k5, k6, k7, k8, k9, k10, k11, k12, k13⟩ := hE.2.1 i hi
    obtain ⟨hl1, hl2, hl3⟩ := hl i hi
    obtain ⟨hw1, hw2, hw3⟩ := hw i hi
    have hrr : ∀ {q : z_q} {I' : z_I}, RE I' I → (if ¬ (0 ≤ l.toInt ∧ l.toInt < lc i) then RM0 n0 xX13_refuse (d + 1) [.ref (n0 + 59), .int (-1)] K I' L (fun vv I1 L1 => ∃ r : Int32, vv = some (.int r) ∧ q (some (.int r)) I1 L1) else if ¬ (0 ≤ w.toInt ∧ w.toInt ≤ 2) then RM0 n0 xX13_refuse (d + 1) [.ref (n0 + 59), .int (-2)] K I' L (fun vv I1 L1 => ∃ r : Int32, vv = some (.int r) ∧ q (some (.int r)) I1 L1) else if v < 0 then RM0 n0 xX13_refuse (d + 1) [.ref (n0 + 59), .int (-4)] K I' L (fun vv I1 L1 => ∃ r : Int32, vv = some (.int r) ∧ q (some (.int r)) I1 L1) else if 1000000000 < v then RM0 n0 xX13_refuse (d + 1) [.ref (n0 + 59), .int (-6)] K I' L (fun vv I1 L1 => ∃ r : Int32, vv = some (.int r) ∧ q (some (.int r)) I1 L1) else if wc i = 12 then RM0 n0 xX13_refuse (d + 1) [.ref (n0 + 59), .int (-6)] K I' L (fun vv I1 L1 => ∃ r : Int32, vv = some (.int r) ∧ q (some (.int r)) I1 L1) else q (some (.int (nI (wc i + 1)))) (zI (zI (zI (zI I' 144 (12 * i + wc i) l) 145 (12 * i + wc i) w) 146 (12 * i + wc i) v) 143 i (nI (wc i + 1))) L) → RM0 n0 xX13_word (d + 2) [.ref (n0 + 59), .int (nI i), .int l, .int w, .int v] K I' L q := by
      intro q I' hre h
      have y : I' 59 114 = nI ne := by rw [hre 59 (by omega) (by omega)]; exact hn2
      have y1 : I' 140 i = nI (lc i) := by rw [hre 140 (by omega) (by omega)]; exact hl2
      have y2 : I' 143 i = nI (wc i) := by rw [hre 143 (by omega) (by omega)]; exact hw2
      refine wp_X13_word hM (c13_isEdition hM y (by omega) ⟨_, rfl, ?_⟩)
      rw [hbe, q_cl (by omega)]
      refine iq (by decide) ⟨q_inn (by omega) (by omega), c13_in_n (n := lc i) hM (by rw [y1]) (by omega) ⟨_, rfl, ?_⟩⟩
      by_cases g1 : 0 ≤ l.toInt ∧ l.toInt < lc i
      · rw [if_neg (fun z => z g1)] at h
        rw [bI_t g1]
        refine iq (by decide) (c13_in_2 hM ⟨_, rfl, ?_⟩)
        by_cases g2 : 0 ≤ w.toInt ∧ w.toInt ≤ 2
        · rw [if_neg (fun z => z g2)] at h
          rw [bI_t g2, y2, q_12j, q_cl (by omega)]
          refine iq (by decide) ?_
          by_cases h3 : v < 0
          · rw [if_pos h3] at h ⊢; exact h
          · rw [if_neg h3] at h ⊢
            by_cases h4 : 1000000000 < v
            · rw [if_pos h4] at h ⊢; exact h
            · rw [if_neg h4] at h ⊢
              by_cases h5 : wc i = 12
              · rw [if_pos h5] at h
                rw [if_pos (by rw [h5]; rfl)]; exact h
              · rw [if_neg h5] at h
                rw [if_neg (fun z => h5 (by have := q_eq.mp z; rw [q_nI (by omega)] at this; have e2' : (12 : Int32).toInt = 12 := rfl; omega)), ← nI_succ, zI_s]
                exact ⟨q_inn (by omega) (by omega), h⟩
        · rw [if_pos g2] at h
          rw [bI_f g2]
          exact ip rfl h
      · rw [if_pos g1] at h
        rw [bI_f g1]
        exact ip rfl h
    refine wp_X12_word hC (c12_editionOf_t hC hE hn hi ⟨_, rfl, oss ?_⟩)
    by_cases g1 : 0 ≤ l.toInt ∧ l.toInt < lc i
    · refine iq (fun z => by have := q_lt.mp z; omega) ⟨by omega, k3, ?_⟩
      rw [hl1]
      refine ip (q_lt.mpr (by rw [q_nI (by omega)]; omega)) ?_
      by_cases g2 : 0 ≤ w.toInt ∧ w.toInt ≤ 2
      · refine iq (fun z => by have := q_lt.mp z; omega) (iq (fun z => by have := q_lt.mp z; omega) (c12_outside hC ⟨_, rfl, ?_⟩))
        rcases bnd_cases v 0 1000000000 with ⟨e, g3⟩ | ⟨e, g3, g4⟩ | ⟨e, g3, g4⟩
        · rw [e]
          exact iq (by decide) (op_rf 4 hC (by omega) (by omega) rfl (hrr re_rf (iq (fun z => z g1) (iq (fun z => z g2) (ip (q_lt.mpr g3) (op_rr 4 hM (by omega) rfl (hr 4 (by omega) (by omega))))))))
        · rw [e]
          exact iq (by decide) (op_rf 6 hC (by omega) (by omega) rfl (hrr re_rf (iq (fun z => z g1) (iq (fun z => z g2) (iq (fun z => by have := q_lt.mp z; omega) (ip (q_lt.mpr g4) (op_rr 6 hM (by omega) rfl (hr 6 (by omega) (by omega)))))))))
        · rw [e, hw1]
          refine ip rfl ?_
          by_cases h5 : wc i = 12
          · rw [h5]
            exact iq (by decide) (op_rf 6 hC (by omega) (by omega) rfl (hrr re_rf (iq (fun z => z g1) (iq (fun z => z g2) (iq (fun z => by have := q_lt.mp z; omega) (iq (fun z => by have := q_lt.mp z; omega) (ip h5 (op_rr 6 hM (by omega) rfl (hr 6 (by omega) (by omega))))))))))
          · obtain ⟨j, hj, hj1, ej⟩ := q_of g1.1
            refine ip (nI_lt (b := 12) (by omega) (by omega)) (c3_addWord k2 k3 k6 k7 k8 k11 k12 k13 hw1 (by omega) ⟨_, rfl, _, rfl, hrr ((((RE.rf.z (Or.inr (by omega))).z (Or.inr (by omega))).z (Or.inr (by omega))).z (Or.inr (by omega))) (iq (fun z => z g1) (iq (fun z => z g2) (iq (fun z => by have := q_lt.mp z; omega) (iq (fun z => by have := q_lt.mp z; omega) (iq h5 ⟨rfl, hs i j hi (by omega) (by omega) rfl hj g2.1 g2.2 (by omega) (by omega)⟩)))))⟩)
      · by_cases h3 : w < 0
        · exact ip h3 (op_rf 2 hC (by omega) (by omega) rfl (hrr re_rf (iq (fun z => z g1) (ip g2 (op_rr 2 hM (by omega) rfl (hr 2 (by omega) (by omega)))))))
        · refine iq h3 (ip (q_lt.mpr ?_) (op_rf 2 hC (by omega) (by omega) rfl (hrr re_rf (iq (fun z => z g1) (ip g2 (op_rr 2 hM (by omega) rfl (hr 2 (by omega) (by omega))))))))
          have := mt q_lt.mpr h3
          omega
    · by_cases h3 : l < 0
      · exact ip h3 (op_rf 1 hC (by omega) (by omega) rfl (hrr re_rf (ip g1 (op_rr 1 hM (by omega) rfl (hr 1 (by omega) (by omega))))))
      · refine iq h3 ⟨by omega, k3, iq (fun z => ?_) (op_rf 1 hC (by omega) (by omega) rfl (hrr re_rf (ip g1 (op_rr 1 hM (by omega) rfl (hr 1 (by omega) (by omega))))))⟩
        have h3' := mt q_lt.mpr h3
        rw [hl1] at z
        have := q_lt.mp z
        rw [q_nI (by omega)] at this
        omega
  · refine wp_X12_word hC (c12_editionOf_f hC hE hn g ⟨_, rfl, osn (op_rf 1 hC (by omega) (by omega) rfl (wp_X13_word hM (c13_isEdition hM (by rw [zI_r (by omega)]; exact hn2) (by omega) ⟨_, rfl, ?_⟩)))⟩)
    rw [bI_f g]
    exact ip rfl (op_rr 1 hM (by omega) rfl (hr 1 (by omega) (by omega)))
end WRD
