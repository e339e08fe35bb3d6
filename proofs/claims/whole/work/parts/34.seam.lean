section SEM
variable {n0 d dr dd mc ms : Nat} {K : z_K} {I : z_I} {L : z_L}
/-- a new seam's cells: from b on -/
def SmB (K : z_K) (I : z_I) (b one : Nat) (p1 p2 p3 p4 : Int32) : Prop := (K.2.1 b).1 = 8 ∧ K.2.1 (b + 1) = (20, 6) ∧ K.2.1 (b + 2) = (20, 6) ∧ K.2.2 b 9 = some (b + 1) ∧ K.2.2 b 10 = some (b + 2) ∧ K.2.2 b 0 = some one ∧ I b 1 = p1 ∧ I b 2 = p2 ∧ I b 3 = p3 ∧ I b 4 = p4 ∧ I b 8 = 0 ∧ I b 11 = 0
theorem zR_o {K : z_K} {a j k : Nat} {v : Option Nat} (h : k ≠ j) : (zR K a j v).2.2 a k = K.2.2 a k := by simp [zR, h]
theorem zR_e {K : z_K} {a j : Nat} {v : Option Nat} : (zR K a j v).2.2 a j = v := by simp [zR]
set_option maxRecDepth 100000 in
theorem c8_init {Q : z_R} {K0 : z_K} {I0 : z_I} {L0 : z_L} {b one : Nat} {p1 p2 p3 p4 : Int32} (hb : K0.1 = b) (hK : K = zN K0 8 0) (hI : I = zI0 I0 b) (hL : L = zL0 L0 b) (h : ∀ K' I' L', Ext K0 K' I0 I' L0 L' b 3 → SmB K' I' b one p1 p2 p3 p4 → Q none K' I' L') : RM n0 xX8_init (d + 1) 2 12 [.ref (n0 + b), .ref (n0 + one), .int p1, .int p2, .int p3, .int p4] K I L Q := by
  obtain ⟨f1, f2, f3, f4, f5⟩ := z_new_ok hb hK
  obtain ⟨i1, i2⟩ := zI0_ok hI
  obtain ⟨l1, l2⟩ := zL0_ok hL
  refine ct_X8_init (by omega) f2 ?_
  obtain ⟨a1, a2, a3, a4, a5, a6, a7, a8, a9⟩ := ct_facts b [(9, 20, 6), (10, 20, 6)] (K, I, L) (show b < K.1 by omega) (ct_dis (by decide))
  generalize List.foldl (ctA b) (K, I, L) [(9, 20, 6), (10, 20, 6)] = S at a1 a2 a3 a4 a5 a6 a7 a8 a9 ⊢
  dsimp only at a1 a2 a3 a4 a5 a6 a7 a8 a9
  rw [f1] at a1 a2 a3 a5 a6 a7 a8 a9
  have b0 := a5 0 _ rfl
  have b1 := a5 1 _ rfl
  show Q none (zR (zR S.1 b 0 (some one)) b 5 (some one)) (zI (zI (zI (zI S.2.1 b 1 p1) b 2 p2) b 3 p3) b 4 p4) S.2.2
  have ib : ∀ k, S.2.1 b k = 0 := fun k => by rw [a6 b (by omega), i2]
  refine h _ _ _ ⟨hb, by show S.1.1 = _; rw [a1]; rfl, fun a ha => ?_, fun a ha => ?_, fun a ha => ?_, fun a ha => by rw [a7 a (by omega), l1 a ha]⟩ ⟨?_, b0.2.1, b1.2.1, ?_, ?_, ?_, ?_, ?_, ?_, ?_, ?_, ?_⟩
  · show S.1.2.1 a = _
    rw [a2 a (by omega), f3 a ha]
  · rw [zR_ne (by omega), zR_ne (by omega), a3 a (by omega) (by omega), f4 a ha]
  · rw [zI_r (by omega), zI_r (by omega), zI_r (by omega), zI_r (by omega), a6 a (by omega), i1 a ha]
  · show (S.1.2.1 b).1 = 8
    rw [a2 b (by omega)]; exact f2
  · rw [zR_o (by omega), zR_o (by omega)]; exact b0.1
  · rw [zR_o (by omega), zR_o (by omega)]; exact b1.1
  · rw [zR_o (by omega), zR_e]
  · rw [zI_d (by omega), zI_d (by omega), zI_d (by omega), zI_s]
  · rw [zI_d (by omega), zI_d (by omega), zI_s]
  · rw [zI_d (by omega), zI_s]
  · rw [zI_s]
  · rw [zI_d (by omega), zI_d (by omega), zI_d (by omega), zI_d (by omega), ib]
  · rw [zI_d (by omega), zI_d (by omega), zI_d (by omega), zI_d (by omega), ib]
variable {np ns : Nat} {pid pts : Nat → Nat}
def smI (I : z_I) (ns : Nat) (p0 p1 p2 p3 p4 p5 p6 p7 : Int32) : z_I := zI (zI (zI (zI (zI (zI (zI (zI (zI I 98 ns p0) 99 ns p1) 100 ns p2) 101 ns p3) 102 ns p4) 103 ns p5) 104 ns p6) 105 ns p7) 59 62 (nI (ns + 1))
theorem c13_seam_ok {q : z_q} {i j l i2 j2 l2 : Nat} {p6 p7 : Int32} (hM : MLay K) (hn : I 59 9 = nI np) (hb : np ≤ 16) (hp : ∀ i, i < np → I 67 i = nI (pts i) ∧ pts i ≤ 10) (hi : i < np) (hj : j < pts i) (hl : l < pts i) (hi2 : i2 < np) (hj2 : j2 < pts i2) (hl2 : l2 < pts i2) (hs : I 59 62 = nI ns) (h20 : ns ≤ 20)
    (h : if p6 < (-999) then RM0 n0 xX13_refuse (d + 2) [.ref (n0 + 59), .int (-4)] K I L (fun vv I1 L1 => ∃ r : Int32, vv = some (.int r) ∧ q (some (.int r)) I1 L1) else if p7 < p6 then RM0 n0 xX13_refuse (d + 2) [.ref (n0 + 59), .int (-4)] K I L (fun vv I1 L1 => ∃ r : Int32, vv = some (.int r) ∧ q (some (.int r)) I1 L1) else if 999 < p6 then RM0 n0 xX13_refuse (d + 2) [.ref (n0 + 59), .int (-6)] K I L (fun vv I1 L1 => ∃ r : Int32, vv = some (.int r) ∧ q (some (.int r)) I1 L1) else if 999 < p7 then RM0 n0 xX13_refuse (d + 2) [.ref (n0 + 59), .int (-6)] K I L (fun vv I1 L1 => ∃ r : Int32, vv = some (.int r) ∧ q (some (.int r)) I1 L1) else if ns = 20 then RM0 n0 xX13_refuse (d + 2) [.ref (n0 + 59), .int (-6)] K I L (fun vv I1 L1 => ∃ r : Int32, vv = some (.int r) ∧ q (some (.int r)) I1 L1) else q (some (.int (nI ns))) (smI I ns (nI i) (nI j) (nI l) (nI i2) (nI j2) (nI l2) p6 p7) L) :
    RM0 n0 xX13_seam (d + 3) [.ref (n0 + 59), .int (nI i), .int (nI j), .int (nI l), .int (nI i2), .int (nI j2), .int (nI l2), .int p6, .int p7] K I L q := by
  refine wp_X13_seam hM (c13_isPoint_t hM hn hb hp hi hj ⟨_, rfl, iq (by decide) (c13_isPoint_t hM hn hb hp hi hl ⟨_, rfl, iq (by decide) (c13_isPoint_t hM hn hb hp hi2 hj2 ⟨_, rfl, iq (by decide) (c13_isPoint_t hM hn hb hp hi2 hl2 ⟨_, rfl, iq (by decide) ?_⟩)⟩)⟩)⟩)
  rw [hs]
  by_cases h1 : p6 < (-999)
  · rw [if_pos h1] at h ⊢; exact h
  rw [if_neg h1] at h ⊢
  by_cases h2 : p7 < p6
  · rw [if_pos h2] at h ⊢; exact h
  rw [if_neg h2] at h ⊢
  by_cases h3 : 999 < p6
  · rw [if_pos h3] at h ⊢; exact h
  rw [if_neg h3] at h ⊢
  by_cases h4 : 999 < p7
  · rw [if_pos h4] at h ⊢; exact h
  rw [if_neg h4] at h ⊢
  by_cases h5 : ns = 20
  · rw [if_pos h5] at h
    rw [if_pos (by rw [h5]; rfl)]; exact h
  · rw [if_neg h5] at h
    rw [if_neg (fun z => h5 (by have := q_eq.mp z; rw [q_nI (by omega)] at this; have e2' : (20 : Int32).toInt = 20 := rfl; omega)), q_cl (by omega), ← nI_succ, nI_pred]
    exact ⟨q_inn (by omega) (by omega), h⟩
theorem c13_seam_bad {q : z_q} {p0 p1 p2 p3 p4 p5 p6 p7 : Int32} (hM : MLay K) (hn : I 59 9 = nI np) (hb : np ≤ 16) (hp : ∀ i, i < np → I 67 i = nI (pts i) ∧ pts i ≤ 10) (hx : ¬ (isPt np pts p0 p1 ∧ isPt np pts p0 p2 ∧ isPt np pts p3 p4 ∧ isPt np pts p3 p5)) (h : RM0 n0 xX13_refuse (d + 2) [.ref (n0 + 59), .int (-1)] K I L (fun vv I1 L1 => ∃ r : Int32, vv = some (.int r) ∧ q (some (.int r)) I1 L1)) :
    RM0 n0 xX13_seam (d + 3) [.ref (n0 + 59), .int p0, .int p1, .int p2, .int p3, .int p4, .int p5, .int p6, .int p7] K I L q := by
  have go : ∀ {x y : Int32} {A B : Prop}, (isPt np pts x y → B) → (¬ isPt np pts x y → A) → True := fun _ _ => trivial
  refine wp_X13_seam hM ?_
  by_cases g1 : isPt np pts p0 p1
  · obtain ⟨i, j, rfl, rfl, hi, hj⟩ := isPt_of hb g1
    refine c13_isPoint_t hM hn hb hp hi hj ⟨_, rfl, iq (by decide) ?_⟩
    by_cases g2 : isPt np pts (nI i) p2
    · obtain ⟨i', l, e1, rfl, hi', hl⟩ := isPt_of hb g2
      rw [e1]
      refine c13_isPoint_t hM hn hb hp hi' hl ⟨_, rfl, iq (by decide) ?_⟩
      by_cases g3 : isPt np pts p3 p4
      · obtain ⟨i2, j2, rfl, rfl, hi2, hj2⟩ := isPt_of hb g3
        refine c13_isPoint_t hM hn hb hp hi2 hj2 ⟨_, rfl, iq (by decide) ?_⟩
        exact c13_isPoint_f hM hn hb hp (fun g4 => hx ⟨g1, g2, g3, g4⟩) ⟨_, rfl, ip rfl h⟩
      · exact c13_isPoint_f hM hn hb hp g3 ⟨_, rfl, ip rfl h⟩
    · exact c13_isPoint_f hM hn hb hp g2 ⟨_, rfl, ip rfl h⟩
  · exact c13_isPoint_f hM hn hb hp g1 ⟨_, rfl, ip rfl h⟩
variable {P : z_K → z_I → z_L → Prop}
theorem isPt_iff {i : Nat} {l : Int32} (hnp : np ≤ 16) (hi : i < np) (hp : pts i ≤ 10) : isPt np pts (nI i) l ↔ (0 ≤ l.toInt ∧ l.toInt < pts i) := by
  constructor
  · intro z
    obtain ⟨i', m, e1, e2, hi', hm⟩ := isPt_of hnp z
    have : i = i' := by have := congrArg Int32.toInt e1; rw [q_nI (by omega), q_nI (by omega)] at this; omega
    subst this
    rw [e2, q_nI (by omega)]
    omega
  · intro z
    obtain ⟨m, rfl, hm1, em⟩ := q_of z.1
    exact isPt_nI hnp hi (by omega) hp
theorem op_seam {p0 p1 p2 p3 p4 p5 p6 p7 : Int32} (hC : CLay K) (hM : MLay K) (h152 : 152 ≤ K.1) (hP : PcK K np pid) (hN : PcN I np pid pts) (hS : SmN I ns) (h20 : ns ≤ 20) (hr : ∀ k, 1 ≤ k → k ≤ 7 → P K (rfI I k) L)
    (hs : ns < 20 → ∀ i j l i2 j2 l2, i < np → j < pts i → l < pts i → i2 < np → j2 < pts i2 → l2 < pts i2 → ¬ p6 < (-999) → ¬ p7 < p6 → ¬ 999 < p7 → ∀ K' I' L', Ext K K' I I' L L' K.1 3 → SmB K' I' K.1 (pid i) (nI j) (nI l) p6 p7 → P (zR (zR K' K.1 5 (some (pid i2))) 21 ns (some K.1)) (smI (zI (zI (zI I' K.1 6 (nI j2)) K.1 7 (nI l2)) 0 13 (nI (ns + 1))) ns (nI i) (nI j) (nI l) (nI i2) (nI j2) (nI l2) p6 p7) L') :
    OpA n0 xX12_seam xX13_seam (d + 2) (d + 3) 3 26 [.int p0, .int p1, .int p2, .int p3, .int p4, .int p5, .int p6, .int p7] K I L P := by
  have hnp := hP.n
  by_cases g1 : isPt np pts p0 p1
  · obtain ⟨i, j, rfl, rfl, hi, hj⟩ := isPt_of hnp g1
    have hlt := hP.lt hi
    have hpj := (hN.m i hi).2
    refine wp_X12_seam hC (c12_pieceWith_t hC hP hN.1 hN.c hi hj ⟨_, rfl, ?_⟩)
    by_cases g3 : isPt np pts p3 p4
    · obtain ⟨i2, j2, rfl, rfl, hi2, hj2⟩ := isPt_of hnp g3
      have hlt2 := hP.lt hi2
      have hpj2 := (hN.m i2 hi2).2
      refine c12_pieceWith_t hC hP hN.1 hN.c hi2 hj2 ⟨_, rfl, oss ⟨by omega, hP.cls hi, c5_has (by omega) (hP.cls hi) (hN.c i hi).1 hpj ⟨_, rfl, ?_⟩⟩⟩
      by_cases g2 : 0 ≤ p2.toInt ∧ p2.toInt < pts i
      · rw [bI_t g2]
        obtain ⟨l, rfl, hl1, el⟩ := q_of g2.1
        refine iq (by decide) (oss ⟨by omega, hP.cls hi2, c5_has (by omega) (hP.cls hi2) (hN.c i2 hi2).1 hpj2 ⟨_, rfl, ?_⟩⟩)
        by_cases g4 : 0 ≤ p5.toInt ∧ p5.toInt < pts i2
        · rw [bI_t g4]
          obtain ⟨l2, rfl, hl21, el2⟩ := q_of g4.1
          refine iq (by decide) (c12_bothOutside hC ⟨_, rfl, ?_⟩)
          have hll : l < pts i := by omega
          have hll2 : l2 < pts i2 := by omega
          have m4 : (-999 : Int32).toInt = -999 := rfl
          have rr : ∀ {k : Nat} {v : Int32}, (zI I 1 k v) 59 62 = nI ns := fun {k v} => by rw [zI_r (by omega)]; exact hS.2
          rcases bb_cases p6 p7 (-999) 999 with ⟨e, g⟩ | ⟨e, ga, gb, g⟩ | ⟨e, ga, gb, gc, gd⟩
          · rw [e]
            refine ip rfl (op_rfK 4 hC (by omega) (by omega) rfl (c13_seam_ok hM (hN.n' re_rf) hnp (hN.m' re_rf) hi hj hll hi2 hj2 hll2 rr h20 ?_))
            by_cases h1 : p6 < (-999)
            · exact ip h1 (op_rr 4 hM (by omega) rfl (hr 4 (by omega) (by omega)))
            · refine iq h1 (ip (q_lt.mpr ?_) (op_rr 4 hM (by omega) rfl (hr 4 (by omega) (by omega))))
              have h1' := mt q_lt.mpr h1
              rcases g with g | g
              · exact absurd g h1
              · have := q_lt.mp g; omega
          · rw [e]
            refine iq (by decide) ?_
            by_cases h2 : p7 < p6
            · exact ip h2 (op_rfK 4 hC (by omega) (by omega) rfl (c13_seam_ok hM (hN.n' re_rf) hnp (hN.m' re_rf) hi hj hll hi2 hj2 hll2 rr h20 (iq ga (ip h2 (op_rr 4 hM (by omega) rfl (hr 4 (by omega) (by omega)))))))
            · refine iq h2 (iq (by decide) (op_rfK 6 hC (by omega) (by omega) rfl (c13_seam_ok hM (hN.n' re_rf) hnp (hN.m' re_rf) hi hj hll hi2 hj2 hll2 rr h20 (iq ga (iq h2 ?_)))))
              by_cases h3 : 999 < p6
              · exact ip h3 (op_rr 6 hM (by omega) rfl (hr 6 (by omega) (by omega)))
              · exact iq h3 (ip (g.resolve_left h3) (op_rr 6 hM (by omega) rfl (hr 6 (by omega) (by omega))))
          · rw [e]
            refine iq (by decide) ?_
            by_cases h2 : p7 < p6
            · exact ip h2 (op_rfK 4 hC (by omega) (by omega) rfl (c13_seam_ok hM (hN.n' re_rf) hnp (hN.m' re_rf) hi hj hll hi2 hj2 hll2 rr h20 (iq ga (ip h2 (op_rr 4 hM (by omega) rfl (hr 4 (by omega) (by omega)))))))
            · refine iq h2 (ip rfl ?_)
              rw [hS.1]
              by_cases h5 : ns < 20
              · refine ip (nI_lt (b := 20) h5 (by omega)) (fun b hb2 K1 hK1 I1 hI1 L1 hL1 => ?_)
                obtain ⟨f1, f2, f3, f4, f5⟩ := z_new_ok hb2 hK1
                refine ⟨hC.ext (by omega) (fun a ha => f3 a (by omega)) (fun a ha => f4 a (by omega)), c8_init hb2 hK1 hI1 hL1 (fun K' I' L' hE hSm => ?_)⟩
                have hE' := hE
                obtain ⟨x1, x2, x3, x4, x5, x6⟩ := hE
                have hC2 : CLay K' := hC.ext (by omega) (fun a ha => x3 a (by omega)) (fun a ha => x4 a (by omega))
                have hM2 : MLay K' := hM.ext (by omega) (fun a ha => x3 a (by omega)) (x4 59 (by omega))
                refine ⟨rfl, hC2, by omega, hSm.1, wp_X8_sewTo ⟨by omega, hSm.1, by show b < K'.1; omega, hSm.1, ?_⟩⟩
                have hC3 : CLay (zR K' b 5 (some (pid i2))) := hC2.ext (Nat.le_refl _) (fun _ _ => rfl) (fun a ha => zR_ne (by omega))
                have hM3 : MLay (zR (zR K' b 5 (some (pid i2))) 21 ns (some b)) := (hM2.zR (by omega)).zR (by omega)
                have y0 : (zI (zI I' b 6 (nI j2)) b 7 (nI l2)) 0 13 = nI ns := by rw [zI_r (by omega), zI_r (by omega), x5 0 (by omega)]; exact hS.1
                rw [y0, q_cl (by omega), ← nI_succ]
                have hre : RE (zI (zI (zI I' b 6 (nI j2)) b 7 (nI l2)) 0 13 (nI (ns + 1))) I := fun a h1 h2 => by rw [zI_r (by omega), zI_r (by omega), zI_r (by omega), x5 a (by omega)]
                refine ⟨rfl, hC3, q_inn (by omega) (by omega), by show b < K'.1; omega, hSm.1, _, rfl, c13_seam_ok hM3 (hN.n' hre) hnp (hN.m' hre) hi hj hll hi2 hj2 hll2 (by rw [hre 59 (by omega) (by omega)]; exact hS.2) h20 (iq ga (iq h2 (iq gc (iq gd (iq (by omega) ⟨rfl, ?_⟩)))))⟩
                subst hb2
                exact hs h5 i j l i2 j2 l2 hi hj hll hi2 hj2 hll2 ga h2 gd K' I' L' hE' hSm
              · have : ns = 20 := by omega
                subst this
                exact iq (by decide) (op_rfK 6 hC (by omega) (by omega) rfl (c13_seam_ok hM (hN.n' re_rf) hnp (hN.m' re_rf) hi hj hll hi2 hj2 hll2 rr h20 (iq ga (iq h2 (iq gc (iq gd (ip rfl (op_rr 6 hM (by omega) rfl (hr 6 (by omega) (by omega)))))))))) 
        · rw [bI_f g4]
          exact ip rfl (op_rfK 1 hC (by omega) (by omega) rfl (c13_seam_bad hM (hN.n' re_rf) hnp (hN.m' re_rf) (fun z => g4 ((isPt_iff hnp hi2 hpj2).mp z.2.2.2)) (op_rr 1 hM (by omega) rfl (hr 1 (by omega) (by omega)))))
      · rw [bI_f g2]
        exact ip rfl (op_rfK 1 hC (by omega) (by omega) rfl (c13_seam_bad hM (hN.n' re_rf) hnp (hN.m' re_rf) (fun z => g2 ((isPt_iff hnp hi hpj).mp z.2.1)) (op_rr 1 hM (by omega) rfl (hr 1 (by omega) (by omega)))))
    · refine c12_pieceWith_f hC hP hN.1 hN.c g3 ⟨_, rfl, oss ⟨by omega, hP.cls hi, c5_has (by omega) (hP.cls hi) (hN.c i hi).1 hpj ⟨_, rfl, ?_⟩⟩⟩
      by_cases g2 : 0 ≤ p2.toInt ∧ p2.toInt < pts i
      · rw [bI_t g2]
        exact iq (by decide) (osn (op_rfK 1 hC (by omega) (by omega) rfl (c13_seam_bad hM (hN.n' re_rf) hnp (hN.m' re_rf) (fun z => g3 z.2.2.1) (op_rr 1 hM (by omega) rfl (hr 1 (by omega) (by omega))))))
      · rw [bI_f g2]
        exact ip rfl (op_rfK 1 hC (by omega) (by omega) rfl (c13_seam_bad hM (hN.n' re_rf) hnp (hN.m' re_rf) (fun z => g3 z.2.2.1) (op_rr 1 hM (by omega) rfl (hr 1 (by omega) (by omega)))))
  · refine wp_X12_seam hC (c12_pieceWith_f hC hP hN.1 hN.c g1 ⟨_, rfl, ?_⟩)
    by_cases g3 : isPt np pts p3 p4
    · obtain ⟨i2, j2, rfl, rfl, hi2, hj2⟩ := isPt_of hnp g3
      exact c12_pieceWith_t hC hP hN.1 hN.c hi2 hj2 ⟨_, rfl, osn (op_rfK 1 hC (by omega) (by omega) rfl (c13_seam_bad hM (hN.n' re_rf) hnp (hN.m' re_rf) (fun z => g1 z.1) (op_rr 1 hM (by omega) rfl (hr 1 (by omega) (by omega)))))⟩
    · exact c12_pieceWith_f hC hP hN.1 hN.c g3 ⟨_, rfl, osn (op_rfK 1 hC (by omega) (by omega) rfl (c13_seam_bad hM (hN.n' re_rf) hnp (hN.m' re_rf) (fun z => g1 z.1) (op_rr 1 hM (by omega) rfl (hr 1 (by omega) (by omega)))))⟩
end SEM
