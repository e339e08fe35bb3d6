/-! seams and editions -/
def SmK (K : z_K) (ns : Nat) (sid : Nat → Nat) : Prop := ns ≤ 20 ∧ (∀ s, s < ns → K.2.2 21 s = some (sid s) ∧ 152 ≤ sid s ∧ sid s + 2 < K.1 ∧ (K.2.1 (sid s)).1 = 8 ∧ K.2.1 (sid s + 1) = (20, 6) ∧ K.2.1 (sid s + 2) = (20, 6) ∧ K.2.2 (sid s) 9 = some (sid s + 1) ∧ K.2.2 (sid s) 10 = some (sid s + 2)) ∧ ∀ p q, p < ns → q < ns → sid p = sid q → p = q
def EdK (K : z_K) (ne : Nat) (eid : Nat → Nat) : Prop := ne ≤ 12 ∧ (∀ s, s < ne → K.2.2 51 s = some (eid s) ∧ 152 ≤ eid s ∧ eid s + 5 < K.1 ∧ (K.2.1 (eid s)).1 = 3 ∧ K.2.1 (eid s + 1) = (35, 8) ∧ K.2.1 (eid s + 2) = (20, 8) ∧ K.2.1 (eid s + 3) = (20, 12) ∧ K.2.1 (eid s + 4) = (20, 12) ∧ K.2.1 (eid s + 5) = (20, 12)
    ∧ K.2.2 (eid s) 1 = some (eid s + 1) ∧ K.2.2 (eid s) 2 = some (eid s + 2) ∧ K.2.2 (eid s) 4 = some (eid s + 3) ∧ K.2.2 (eid s) 5 = some (eid s + 4) ∧ K.2.2 (eid s) 6 = some (eid s + 5)) ∧ ∀ p q, p < ne → q < ne → eid p = eid q → p = q
section OP6
variable {n0 d dr dd : Nat} {K : z_K} {I : z_I} {L : z_L} {P : z_I → z_L → Prop} {Q : z_q} {np nb ns ne : Nat} {pid bid pts sid eid : Nat → Nat}
theorem c12_seamOf_t {i : Nat} (hC : CLay K) (hP : SmK K ns sid) (hn : I 0 13 = nI ns) (hi : i < ns) (h : Q (some (zr n0 (some (sid i)))) I L) : RM0 n0 xX12_seamOf d [.ref (n0 + 0), .int (nI i)] K I L Q := by
  have := hP.1
  refine wp_X12_seamOf hC (iq (nI_pos (by omega)) (ip (by rw [hn]; exact nI_lt hi (by omega)) ⟨q_inn (by omega) (by omega), sid i, ?_, h⟩))
  rw [q_cl (by omega)]; exact (hP.2.1 i hi).1
theorem c12_seamOf_f {p : Int32} (hC : CLay K) (hP : SmK K ns sid) (hn : I 0 13 = nI ns) (hi : ¬ (0 ≤ p.toInt ∧ p.toInt < ns)) (h : Q (some (zr n0 none)) I L) : RM0 n0 xX12_seamOf d [.ref (n0 + 0), .int p] K I L Q := by
  have hnn := hP.1
  refine wp_X12_seamOf hC ?_
  by_cases g : p < 0
  · exact ip g h
  · refine iq g (iq (fun q => ?_) h)
    have g' : ¬ p.toInt < 0 := fun z => g (q_lt.mpr z)
    rw [hn] at q
    have := q_lt.mp q
    rw [q_nI (by omega)] at this
    omega
theorem c12_editionOf_t {i : Nat} (hC : CLay K) (hP : EdK K ne eid) (hn : I 0 18 = nI ne) (hi : i < ne) (h : Q (some (zr n0 (some (eid i)))) I L) : RM0 n0 xX12_editionOf d [.ref (n0 + 0), .int (nI i)] K I L Q := by
  have := hP.1
  refine wp_X12_editionOf hC (iq (nI_pos (by omega)) (ip (by rw [hn]; exact nI_lt hi (by omega)) ⟨q_inn (by omega) (by omega), eid i, ?_, h⟩))
  rw [q_cl (by omega)]; exact (hP.2.1 i hi).1
theorem c12_editionOf_f {p : Int32} (hC : CLay K) (hP : EdK K ne eid) (hn : I 0 18 = nI ne) (hi : ¬ (0 ≤ p.toInt ∧ p.toInt < ne)) (h : Q (some (zr n0 none)) I L) : RM0 n0 xX12_editionOf d [.ref (n0 + 0), .int p] K I L Q := by
  have hnn := hP.1
  refine wp_X12_editionOf hC ?_
  by_cases g : p < 0
  · exact ip g h
  · refine iq g (iq (fun q => ?_) h)
    have g' : ¬ p.toInt < 0 := fun z => g (q_lt.mpr z)
    rw [hn] at q
    have := q_lt.mp q
    rw [q_nI (by omega)] at this
    omega
def SmN (I : z_I) (ns : Nat) : Prop := I 0 13 = nI ns ∧ I 59 62 = nI ns
theorem SmN.m' {I' : z_I} (h : SmN I ns) (hr : RE I' I) : I' 59 62 = nI ns := by rw [hr 59 (by omega) (by omega)]; exact h.2
theorem op_gather {s v : Int32} (hC : CLay K) (hM : MLay K) (hS : SmK K ns sid) (hN : SmN I ns) (he : ∀ i, i < ns → I (sid i) 8 = I 106 i) (hr : ∀ k, 1 ≤ k → k ≤ 7 → P (rfI I k) L) (hs : ∀ i, i < ns → 0 ≤ v.toInt → v.toInt ≤ 999 → P (zI (zI I (sid i) 8 v) 106 i v) L) : Op0 n0 xX12_gather xX13_gather (d + 1) (d + 2) [.int s, .int v] K I L P := by
  have hns := hS.1
  by_cases g : 0 ≤ s.toInt ∧ s.toInt < ns
  · obtain ⟨i, rfl, hi1, ei⟩ := q_of g.1
    have hi : i < ns := by omega
    obtain ⟨k1, k2, k3, k4, k5, k6, k7, k8⟩ := hS.2.1 i hi
    have hb : bI (0 ≤ (nI i).toInt ∧ (nI i).toInt < ns) = 1 := bI_t g
    refine wp_X12_gather hC (c12_seamOf_t hC hS hN.1 hi ⟨_, rfl, oss (c12_outside hC ⟨_, rfl, ?_⟩)⟩)
    rcases bnd_cases v 0 999 with ⟨e, g⟩ | ⟨e, g0, g⟩ | ⟨e, g0, g⟩
    · rw [e]
      refine iq (by decide) (op_rf 4 hC (by omega) (by omega) rfl (wp_X13_gather hM (c13_isSeam hM (hN.m' re_rf) (by omega) ⟨_, rfl, ?_⟩)))
      rw [hb]
      refine iq (by decide) (c13_bounds hM ⟨_, rfl, ?_⟩)
      rw [e]
      refine ip (by decide) (c13_bounds hM ⟨_, rfl, ?_⟩)
      rw [e]
      exact op_rr 4 hM (by omega) rfl (hr 4 (by omega) (by omega))
    · rw [e]
      refine iq (by decide) (op_rf 6 hC (by omega) (by omega) rfl (wp_X13_gather hM (c13_isSeam hM (hN.m' re_rf) (by omega) ⟨_, rfl, ?_⟩)))
      rw [hb]
      refine iq (by decide) (c13_bounds hM ⟨_, rfl, ?_⟩)
      rw [e]
      refine ip (by decide) (c13_bounds hM ⟨_, rfl, ?_⟩)
      rw [e]
      exact op_rr 6 hM (by omega) rfl (hr 6 (by omega) (by omega))
    · rw [e]
      have hre : RE (zI I (sid i) 8 v) I := RE.rf.z (Or.inr k2)
      refine ip rfl ⟨by omega, k4, _, rfl, wp_X13_gather hM (c13_isSeam hM (hN.m' hre) (by omega) ⟨_, rfl, ?_⟩)⟩
      rw [hb]
      refine iq (by decide) (c13_bounds hM ⟨_, rfl, ?_⟩)
      rw [e]
      refine iq (by decide) ⟨q_inn (by omega) (by omega), ?_, ?_⟩
      · rw [q_cl (by omega), he i hi, hre 106 (by omega) (by omega)]
      · rw [q_cl (by omega)]; exact hs i hi g0 g
  · refine wp_X12_gather hC (c12_seamOf_f hC hS hN.1 g ⟨_, rfl, osn (op_rf 1 hC (by omega) (by omega) rfl (wp_X13_gather hM (c13_isSeam hM (hN.m' re_rf) (by omega) ⟨_, rfl, ?_⟩)))⟩)
    rw [bI_f g]
    exact ip rfl (op_rr 1 hM (by omega) rfl (hr 1 (by omega) (by omega)))
theorem c8_addNotch {i c : Nat} {p q : Int32} (hS : SmK K ns sid) (hi : i < ns) (hc : I (sid i) 11 = nI c) (hc6 : c < 6) (h : Q (some (.int (nI (c + 1)))) (zI (zI (zI I (sid i + 1) c p) (sid i + 2) c q) (sid i) 11 (nI (c + 1))) L) : RM0 n0 xX8_addNotch d [.ref (n0 + sid i), .int p, .int q] K I L Q := by
  obtain ⟨k1, k2, k3, k4, k5, k6, k7, k8⟩ := hS.2.1 i hi
  have z1 : ∀ {a : Nat} {v : Int32}, zI I (sid i + 1) a v (sid i) 11 = I (sid i) 11 := fun {_ _} => by rw [zI_r (by omega)]
  have z2 : ∀ {a b : Nat} {v w : Int32}, zI (zI I (sid i + 1) a v) (sid i + 2) b w (sid i) 11 = I (sid i) 11 := fun {_ _ _ _} => by rw [zI_r (by omega), zI_r (by omega)]
  refine wp_X8_addNotch ⟨by omega, k4, ip (by rw [hc]; exact nI_lt (b := 6) hc6 (by omega)) ⟨_, k7, 6, by omega, k5, by rw [hc]; exact q_inn hc6 (by omega), _, k8, 6, by omega, k6, by rw [z1, hc]; exact q_inn hc6 (by omega), ?_⟩⟩
  rw [z1, z2, zI_s, hc, q_cl (by omega), ← nI_succ]
  exact h
theorem q_6j {i j : Nat} : ((6 : Int32) * nI i + nI j) = nI (6 * i + j) := by
  rw [show (6 : Int32) = nI 6 from rfl, q_nmul, q_nadd]
theorem op_notch {s p q : Int32} {nt : Nat → Nat} (hC : CLay K) (hM : MLay K) (hS : SmK K ns sid) (hN : SmN I ns) (he : ∀ i, i < ns → I (sid i) 11 = nI (nt i) ∧ I 107 i = nI (nt i) ∧ nt i ≤ 6) (hr : ∀ k, 1 ≤ k → k ≤ 7 → P (rfI I k) L)
    (hs : ∀ i, i < ns → nt i < 6 → ¬ p < 0 → ¬ q < 0 → ¬ 99999 < p → ¬ 99999 < q → P (zI (zI (zI (zI (zI (zI I (sid i + 1) (nt i) p) (sid i + 2) (nt i) q) (sid i) 11 (nI (nt i + 1))) 108 (6 * i + nt i) p) 109 (6 * i + nt i) q) 107 i (nI (nt i + 1))) L) : Op0 n0 xX12_notch xX13_notch (d + 2) (d + 2) [.int s, .int p, .int q] K I L P := by
  have hns := hS.1
  by_cases g : 0 ≤ s.toInt ∧ s.toInt < ns
  · obtain ⟨i, rfl, hi1, ei⟩ := q_of g.1
    have hi : i < ns := by omega
    obtain ⟨k1, k2, k3, k4, k5, k6, k7, k8⟩ := hS.2.1 i hi
    obtain ⟨f1, f2, f3⟩ := he i hi
    have hb : bI (0 ≤ (nI i).toInt ∧ (nI i).toInt < ns) = 1 := bI_t g
    refine wp_X12_notch hC (c12_seamOf_t hC hS hN.1 hi ⟨_, rfl, oss (c12_bothOutside hC ⟨_, rfl, ?_⟩)⟩)
    rcases bb_cases p q 0 99999 with ⟨e, g⟩ | ⟨e, g1, g2, g⟩ | ⟨e, g1, g2, g3, g4⟩ <;> rw [e]
    · refine iq (by decide) (op_rf 4 hC (by omega) (by omega) rfl (wp_X13_notch hM (c13_isSeam hM (hN.m' re_rf) (by omega) ⟨_, rfl, ?_⟩)))
      rw [hb]
      exact iq (by decide) (ch4 (hi := 0) (B := True) g (op_rr 4 hM (by omega) rfl (hr 4 (by omega) (by omega))))
    · refine iq (by decide) (op_rf 6 hC (by omega) (by omega) rfl (wp_X13_notch hM (c13_isSeam hM (hN.m' re_rf) (by omega) ⟨_, rfl, ?_⟩)))
      rw [hb]
      exact iq (by decide) (ch6 g1 g2 g (op_rr 6 hM (by omega) rfl (hr 6 (by omega) (by omega))))
    · refine ip rfl ⟨by omega, k4, ?_⟩
      rw [f1]
      by_cases hc : nt i < 6
      · have c2 : ¬ (nI (nt i) : Int32) = 6 := fun z => by
          have := q_eq.mp z
          rw [q_nI (by omega)] at this
          have e6 : (6 : Int32).toInt = 6 := rfl
          omega
        have hre : RE (zI (zI (zI I (sid i + 1) (nt i) p) (sid i + 2) (nt i) q) (sid i) 11 (nI (nt i + 1))) I := ((RE.rf.z (Or.inr (by omega))).z (Or.inr (by omega))).z (Or.inr (by omega))
        refine ip (nI_lt (b := 6) hc (by omega)) (c8_addNotch hS hi f1 hc ⟨_, rfl, _, rfl, wp_X13_notch hM (c13_isSeam hM (hN.m' hre) (by omega) ⟨_, rfl, ?_⟩)⟩)
        rw [hb]
        refine iq (by decide) (ch0 g1 g2 g3 g4 ⟨q_inn (by omega) (by omega), ?_⟩)
        rw [hre 107 (by omega) (by omega), q_cl (by omega), f2, q_6j, q_cl (by omega), ← nI_succ, zI_s]
        exact iq c2 ⟨q_inn (by omega) (by omega), rfl, hs i hi hc g1 g2 g3 g4⟩
      · have hc6 : nt i = 6 := by omega
        rw [hc6]
        refine iq (by decide) (op_rf 6 hC (by omega) (by omega) rfl (wp_X13_notch hM (c13_isSeam hM (hN.m' re_rf) (by omega) ⟨_, rfl, ?_⟩)))
        rw [hb]
        refine iq (by decide) (ch0 g1 g2 g3 g4 ⟨q_inn (by omega) (by omega), ?_⟩)
        rw [re_rf 107 (by omega) (by omega), q_cl (by omega), f2, hc6]
        exact ip rfl (op_rr 6 hM (by omega) rfl (hr 6 (by omega) (by omega)))
  · refine wp_X12_notch hC (c12_seamOf_f hC hS hN.1 g ⟨_, rfl, osn (op_rf 1 hC (by omega) (by omega) rfl (wp_X13_notch hM (c13_isSeam hM (hN.m' re_rf) (by omega) ⟨_, rfl, ?_⟩)))⟩)
    rw [bI_f g]
    exact ip rfl (op_rr 1 hM (by omega) rfl (hr 1 (by omega) (by omega)))
end OP6
