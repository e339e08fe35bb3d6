section OLN
variable {n0 d : Nat} {K K' : z_K} {I I' : z_I} {L : z_L} {np nr nb na t : Nat} {pid pts rid rp rk ln cx cy bid m : Nat → Nat} {par : Nat → Option Nat} {X Y : Nat → List Int32} {A : Int32 → Int32 → Option (Int32 × Int32)} {p s b : Nat} {P : z_K → z_I → z_L → Prop} {p0 p1 p2 p3 p4 : Int32}
theorem bnd_0 {v : Int32} (gb : ¬ bnd v 0 1000 < 0) : bnd v 0 1000 = 0 := by
  rcases bnd_cases v 0 1000 with ⟨e, g⟩ | ⟨e, g0, g⟩ | ⟨e, g0, g⟩
  · rw [e] at gb; exact absurd (by decide) gb
  · rw [e] at gb; exact absurd (by decide) gb
  · exact e
theorem bnd_k {v : Int32} (gb : bnd v 0 1000 < 0) : ∃ k : Nat, 1 ≤ k ∧ k ≤ 7 ∧ (bnd v 0 1000).toInt = -(k : Int) := by
  rcases bnd_cases v 0 1000 with ⟨e, g⟩ | ⟨e, g0, g⟩ | ⟨e, g0, g⟩
  · exact ⟨4, by omega, by omega, by rw [e]; rfl⟩
  · exact ⟨6, by omega, by omega, by rw [e]; rfl⟩
  · rw [e] at gb; exact absurd gb (by decide)
theorem op_length (hW : Wd K I np nr nb na t pid pts rid rp rk ln cx cy bid m par X Y A) (hB : WdB I np A) (hs0 : ∀ K' I' L', KD K K' → Fz (gS K) I I' → P K' I' L') (hs1 : ∀ k, 1 ≤ k → k ≤ 7 → ∀ K' I' L', KD K K' → Fz (gS K) (rfI I k) I' → P K' I' L') :
    OpA n0 xX12_length xX13_length (d + 5) (d + 12) 0 0 [.int p0, .int p1, .int p2, .int p3, .int p4] K I L P := by
  have hC := hW.1
  have hM := hW.2.1
  have hP := hW.2.2.2.1
  have hN := hW.2.2.2.2.1
  have hnp := hP.n
  have hr : ∀ k, 1 ≤ k → k ≤ 7 → P K (rfI I k) L := fun k h1 h7 => hs1 k h1 h7 K _ L KD.rf Fz.rfl'
  by_cases g1 : isPt np pts p0 p1
  · obtain ⟨i, j, rfl, rfl, hi, hj⟩ := isPt_of hnp g1
    have hlt := hP.lt hi
    have hpt := (hN.2.2 i hi).2.2
    refine wp_X12_length hC (c12_pieceWith_t hC hP hN.1 hN.c hi hj ⟨_, rfl, oss ⟨by omega, hP.cls hi, c5_has (by omega) (hP.cls hi) (hN.c i hi).1 hpt.2 ⟨_, rfl, ?_⟩⟩⟩)
    by_cases gl : 0 ≤ p2.toInt ∧ p2.toInt < pts i
    · rw [bI_t gl]
      obtain ⟨l, rfl, _, el⟩ := q_of gl.1
      have hl : l < pts i := by omega
      refine iq (by decide) (c12_isSize hC ⟨_, rfl, ?_⟩)
      by_cases g2 : 0 ≤ p3.toInt ∧ p3.toInt < 11
      · rw [bI_t g2]
        refine iq (by decide) (c12_outside hC ⟨_, rfl, ?_⟩)
        by_cases gb : bnd p4 0 1000 < 0
        · obtain ⟨k, k1, k7, ek⟩ := bnd_k gb
          refine iq (fun z => by rw [z] at gb; exact absurd gb (by decide)) (op_rfK k hC k1 k7 ek (wp_X13_length hM (c13_isPoint_t hM (hN.n' re_rf) hnp (hN.m' re_rf) hi hj ⟨_, rfl, iq (by decide) (c13_isPoint_t hM (hN.n' re_rf) hnp (hN.m' re_rf) hi hl ⟨_, rfl, iq (by decide) (c13_wrongDrawn (hW.fT KD.rf (rf_gT Fz.rfl')) hi (fun z => absurd g2 z) (fun _ _ => ⟨_, rfl, ip gb (op_rr k hM k7 ek (hr k k1 k7))⟩) (fun s hs es nb => absurd gb nb))⟩)⟩)))
        · rw [bnd_0 gb]
          obtain ⟨s, rfl, _, es⟩ := q_of g2.1
          have hs11 : s < 11 := by omega
          refine ip rfl (c12_sndAt hW hi hs11 (fun K1 I1 L1 k1 f1 e1 d1 n1 => ⟨_, rfl, hC.kd k1, ?_⟩))
          have w1 := hW.fr k1 f1
          have f1T : Fz (gT K) I I1 := f1.mono (fun _ _ z => gT_s z)
          cases eD : DAt I X Y rp rk nr t pts par np s p4 i with
          | none =>
            rw [bI_f (by simp)]
            refine ip rfl (op_rfK 7 (hC.kd k1) (by omega) (by omega) rfl ?_)
            have w2 := hW.fT k1 (rf_gT (k := 7) (v := I1 1 7 + 1) f1)
            refine wp_X13_length w2.2.1 (c13_isPoint_t w2.2.1 w2.2.2.2.2.1.2.1 hnp w2.2.2.2.2.1.m hi hj ⟨_, rfl, iq (by decide) (c13_isPoint_t w2.2.1 w2.2.2.2.2.1.2.1 hnp w2.2.2.2.2.1.m hi hl ⟨_, rfl, iq (by decide) (c13_wrongDrawn w2 hi (fun z => absurd g2 z) (fun _ z => absurd z gb) (fun s' hs' es' _ I2 L2 f2 hx => ⟨_, rfl, ?_⟩))⟩)⟩)
            have ess : s' = s := ((q_ni (by omega) (by omega)).mp es').symm
            subst ess
            rw [DAt_f (rf_gT f1), eD, if_pos rfl]
            refine ip (by decide) (op_rr 7 (hM.kd k1) (by omega) rfl (hs1 7 (by omega) (by omega) K1 _ _ k1 ?_))
            rw [gS_k k1] at f2
            exact rf_late f1 f2
          | some g =>
            rw [bI_t (by simp)]
            have hbg := DAt_b hW hB hi hs11 eD
            have hB1 := hB.fT f1T
            refine iq (by decide) (c2_lengthOf (g := g) w1 hB1 hi (fun k hk => d1.pl hi n1 eD hk) hbg hj hl (fun I3 f3 => ⟨_, rfl, _, rfl, ?_⟩))
            have f3g : Fz (gS K) I I3 := f1.trans (f3.mono (fun a j z => trS_g z))
            have f3T : Fz (gT K) I I3 := f3g.mono (fun _ _ z => gT_s z)
            have w3 := hW.fr k1 f3g
            refine wp_X13_length w3.2.1 (c13_isPoint_t w3.2.1 w3.2.2.2.2.1.2.1 hnp w3.2.2.2.2.1.m hi hj ⟨_, rfl, iq (by decide) (c13_isPoint_t w3.2.1 w3.2.2.2.2.1.2.1 hnp w3.2.2.2.2.1.m hi hl ⟨_, rfl, iq (by decide) (c13_wrongDrawn w3 hi (fun z => absurd g2 z) (fun _ z => absurd z gb) (fun s' hs' es' _ I2 L2 f2 hx => ⟨_, rfl, ?_⟩))⟩)⟩)
            have ess : s' = s := ((q_ni (by omega) (by omega)).mp es').symm
            subst ess
            rw [DAt_f f3T] at hx ⊢
            rw [eD, if_neg (show ¬ (some g = none) by simp)]
            rw [gS_k k1] at f2
            have f2g : Fz (gS K) I I2 := f3g.trans f2
            have f2T : Fz (gT K) I I2 := f2g.mono (fun _ _ z => gT_s z)
            refine iq (by decide) (c13_lengthOf (d := d + 7) (g := g) (hW.fr k1 f2g) (hB.fT f2T) hi (hx g eD) hbg hj hl (fun I4 f4 => ⟨_, rfl, ?_, hs0 K1 I4 L2 k1 (f2g.trans (f4.mono (fun a j z => fwS_g z)))⟩))
            rw [LenP_f f2T, LenP_f f1T]
      · rw [bI_f g2]
        refine ip rfl (op_rfK 1 hC (by omega) (by omega) rfl (wp_X13_length hM (c13_isPoint_t hM (hN.n' re_rf) hnp (hN.m' re_rf) hi hj ⟨_, rfl, iq (by decide) (c13_isPoint_t hM (hN.n' re_rf) hnp (hN.m' re_rf) hi hl ⟨_, rfl, iq (by decide) (c13_wrongDrawn (hW.fT KD.rf (rf_gT Fz.rfl')) hi (fun _ => ⟨_, rfl, ip (by decide) (op_rr 1 hM (by omega) rfl (hr 1 (by omega) (by omega)))⟩) (fun z => absurd z g2) (fun s hs es => absurd (by rw [es, q_nI (by omega)]; omega) g2))⟩)⟩)))
    · rw [bI_f gl]
      exact ip rfl (op_rfK 1 hC (by omega) (by omega) rfl (wp_X13_length hM (c13_isPoint_t hM (hN.n' re_rf) hnp (hN.m' re_rf) hi hj ⟨_, rfl, iq (by decide) (c13_isPoint_f hM (hN.n' re_rf) hnp (hN.m' re_rf) (fun z => gl ((isPt_iff hnp hi hpt.2).mp z)) ⟨_, rfl, ip rfl (op_rr 1 hM (by omega) rfl (hr 1 (by omega) (by omega)))⟩)⟩)))
  · exact wp_X12_length hC (c12_pieceWith_f hC hP hN.1 hN.c g1 ⟨_, rfl, osn (op_rfK 1 hC (by omega) (by omega) rfl (wp_X13_length hM (c13_isPoint_f hM (hN.n' re_rf) hnp (hN.m' re_rf) g1 ⟨_, rfl, ip rfl (op_rr 1 hM (by omega) rfl (hr 1 (by omega) (by omega)))⟩)))⟩)
theorem op_lengthOn (hW : Wd K I np nr nb na t pid pts rid rp rk ln cx cy bid m par X Y A) (hB : WdB I np A) (hs0 : ∀ K' I' L', KD K K' → Fz (gS K) I I' → P K' I' L') (hs1 : ∀ k, 1 ≤ k → k ≤ 7 → ∀ K' I' L', KD K K' → Fz (gS K) (rfI I k) I' → P K' I' L') :
    OpA n0 xX12_lengthOn xX13_lengthOn (d + 5) (d + 12) 0 0 [.int p0, .int p1, .int p2, .int p3] K I L P := by
  have hC := hW.1
  have hM := hW.2.1
  have hP := hW.2.2.2.1
  have hN := hW.2.2.2.2.1
  have hBd := hW.2.2.2.2.2.2.2.2.2.1
  have hBN := hW.2.2.2.2.2.2.2.2.2.2.1
  have hnp := hP.n
  have hnb := hBd.n
  have hr : ∀ k, 1 ≤ k → k ≤ 7 → P K (rfI I k) L := fun k h1 h7 => hs1 k h1 h7 K _ L KD.rf Fz.rfl'
  by_cases g1 : isPt np pts p0 p1
  · obtain ⟨i, j, rfl, rfl, hi, hj⟩ := isPt_of hnp g1
    have hlt := hP.lt hi
    have hpt := (hN.2.2 i hi).2.2
    by_cases gl : 0 ≤ p2.toInt ∧ p2.toInt < pts i
    · obtain ⟨l, rfl, _, el⟩ := q_of gl.1
      have hl : l < pts i := by omega
      by_cases g2 : 0 ≤ p3.toInt ∧ p3.toInt < nb
      · obtain ⟨b, rfl, hb1, eb⟩ := q_of g2.1
        have hb : b < nb := by omega
        refine wp_X12_lengthOn hC (c12_pieceWith_t hC hP hN.1 hN.c hi hj ⟨_, rfl, c12_bodyOf_t hC hBd hBN.1 hb ⟨_, rfl, oss ⟨by omega, hP.cls hi, c5_has (by omega) (hP.cls hi) (hN.c i hi).1 hpt.2 ⟨_, rfl, ?_⟩⟩⟩⟩)
        rw [bI_t gl]
        refine iq (by decide) (oss (c12_sndFor hW hi hb (fun K1 I1 L1 k1 f1 d1 n1 => ⟨_, rfl, hC.kd k1, ?_⟩)))
        have w1 := hW.fr k1 f1
        have f1T : Fz (gT K) I I1 := f1.mono (fun _ _ z => gT_s z)
        cases eD : DFo I X Y rp rk nr t pts par A np b i with
        | none =>
          rw [bI_f (by simp)]
          refine ip rfl (op_rfK 7 (hC.kd k1) (by omega) (by omega) rfl ?_)
          have w2 := hW.fT k1 (rf_gT (k := 7) (v := I1 1 7 + 1) f1)
          refine wp_X13_lengthOn w2.2.1 (c13_isPoint_t w2.2.1 w2.2.2.2.2.1.2.1 hnp w2.2.2.2.2.1.m hi hj ⟨_, rfl, iq (by decide) (c13_isPoint_t w2.2.1 w2.2.2.2.2.1.2.1 hnp w2.2.2.2.2.1.m hi hl ⟨_, rfl, iq (by decide) (c13_isBody w2.2.1 w2.2.2.2.2.2.2.2.2.2.2.1.2 (by omega) ⟨_, rfl, ?_⟩)⟩)⟩)
          rw [bI_t g2]
          refine iq (by decide) (c13_drwFor w2 hi hb (fun I2 L2 f2 hx => ⟨_, rfl, ?_⟩))
          rw [DFo_f (rf_gT f1), eD, bI_f (by simp)]
          refine ip rfl (op_rr 7 (hM.kd k1) (by omega) rfl (hs1 7 (by omega) (by omega) K1 _ _ k1 ?_))
          rw [gS_k k1] at f2
          exact rf_late f1 f2
        | some g =>
          rw [bI_t (by simp)]
          have hbg := DFo_b hW hB hi hb eD
          have hB1 := hB.fT f1T
          refine iq (by decide) (c2_lengthOf (g := g) w1 hB1 hi (fun k hk => d1.pl hi n1 eD hk) hbg hj hl (fun I3 f3 => ⟨_, rfl, _, rfl, ?_⟩))
          have f3g : Fz (gS K) I I3 := f1.trans (f3.mono (fun a j z => trS_g z))
          have f3T : Fz (gT K) I I3 := f3g.mono (fun _ _ z => gT_s z)
          have w3 := hW.fr k1 f3g
          refine wp_X13_lengthOn w3.2.1 (c13_isPoint_t w3.2.1 w3.2.2.2.2.1.2.1 hnp w3.2.2.2.2.1.m hi hj ⟨_, rfl, iq (by decide) (c13_isPoint_t w3.2.1 w3.2.2.2.2.1.2.1 hnp w3.2.2.2.2.1.m hi hl ⟨_, rfl, iq (by decide) (c13_isBody w3.2.1 w3.2.2.2.2.2.2.2.2.2.2.1.2 (by omega) ⟨_, rfl, ?_⟩)⟩)⟩)
          rw [bI_t g2]
          refine iq (by decide) (c13_drwFor w3 hi hb (fun I2 L2 f2 hx => ⟨_, rfl, ?_⟩))
          rw [DFo_f f3T] at hx ⊢
          rw [eD, bI_t (show some g ≠ none by simp)]
          rw [gS_k k1] at f2
          have f2g : Fz (gS K) I I2 := f3g.trans f2
          have f2T : Fz (gT K) I I2 := f2g.mono (fun _ _ z => gT_s z)
          refine iq (by decide) (c13_lengthOf (d := d + 7) (g := g) (hW.fr k1 f2g) (hB.fT f2T) hi (hx g eD) hbg hj hl (fun I4 f4 => ⟨_, rfl, ?_, hs0 K1 I4 L2 k1 (f2g.trans (f4.mono (fun a j z => fwS_g z)))⟩))
          rw [LenP_f f2T, LenP_f f1T]
      · refine wp_X12_lengthOn hC (c12_pieceWith_t hC hP hN.1 hN.c hi hj ⟨_, rfl, c12_bodyOf_f hC hBd hBN.1 g2 ⟨_, rfl, oss ⟨by omega, hP.cls hi, c5_has (by omega) (hP.cls hi) (hN.c i hi).1 hpt.2 ⟨_, rfl, ?_⟩⟩⟩⟩)
        rw [bI_t gl]
        refine iq (by decide) (osn (op_rfK 1 hC (by omega) (by omega) rfl (wp_X13_lengthOn hM (c13_isPoint_t hM (hN.n' re_rf) hnp (hN.m' re_rf) hi hj ⟨_, rfl, iq (by decide) (c13_isPoint_t hM (hN.n' re_rf) hnp (hN.m' re_rf) hi hl ⟨_, rfl, iq (by decide) (c13_isBody hM (hBN.m' re_rf) (by omega) ⟨_, rfl, ?_⟩)⟩)⟩))))
        rw [bI_f g2]
        exact ip rfl (op_rr 1 hM (by omega) rfl (hr 1 (by omega) (by omega)))
    · have bad : OpR n0 xX13_lengthOn (d + 12) [.int (nI i), .int (nI j), .int p2, .int p3] K (zI I 1 1 (I 1 1 + 1)) L (P K) (-1) := wp_X13_lengthOn hM (c13_isPoint_t hM (hN.n' re_rf) hnp (hN.m' re_rf) hi hj ⟨_, rfl, iq (by decide) (c13_isPoint_f hM (hN.n' re_rf) hnp (hN.m' re_rf) (fun z => gl ((isPt_iff hnp hi hpt.2).mp z)) ⟨_, rfl, ip rfl (op_rr 1 hM (by omega) rfl (hr 1 (by omega) (by omega)))⟩)⟩)
      by_cases g2 : 0 ≤ p3.toInt ∧ p3.toInt < nb
      · obtain ⟨b, rfl, hb1, eb⟩ := q_of g2.1
        refine wp_X12_lengthOn hC (c12_pieceWith_t hC hP hN.1 hN.c hi hj ⟨_, rfl, c12_bodyOf_t hC hBd hBN.1 (by omega) ⟨_, rfl, oss ⟨by omega, hP.cls hi, c5_has (by omega) (hP.cls hi) (hN.c i hi).1 hpt.2 ⟨_, rfl, ?_⟩⟩⟩⟩)
        rw [bI_f gl]
        exact ip rfl (op_rfK 1 hC (by omega) (by omega) rfl bad)
      · refine wp_X12_lengthOn hC (c12_pieceWith_t hC hP hN.1 hN.c hi hj ⟨_, rfl, c12_bodyOf_f hC hBd hBN.1 g2 ⟨_, rfl, oss ⟨by omega, hP.cls hi, c5_has (by omega) (hP.cls hi) (hN.c i hi).1 hpt.2 ⟨_, rfl, ?_⟩⟩⟩⟩)
        rw [bI_f gl]
        exact ip rfl (op_rfK 1 hC (by omega) (by omega) rfl bad)
  · have bad : OpR n0 xX13_lengthOn (d + 12) [.int p0, .int p1, .int p2, .int p3] K (zI I 1 1 (I 1 1 + 1)) L (P K) (-1) := wp_X13_lengthOn hM (c13_isPoint_f hM (hN.n' re_rf) hnp (hN.m' re_rf) g1 ⟨_, rfl, ip rfl (op_rr 1 hM (by omega) rfl (hr 1 (by omega) (by omega)))⟩)
    by_cases g2 : 0 ≤ p3.toInt ∧ p3.toInt < nb
    · obtain ⟨b, rfl, hb1, eb⟩ := q_of g2.1
      exact wp_X12_lengthOn hC (c12_pieceWith_f hC hP hN.1 hN.c g1 ⟨_, rfl, c12_bodyOf_t hC hBd hBN.1 (by omega) ⟨_, rfl, osn (op_rfK 1 hC (by omega) (by omega) rfl bad)⟩⟩)
    · exact wp_X12_lengthOn hC (c12_pieceWith_f hC hP hN.1 hN.c g1 ⟨_, rfl, c12_bodyOf_f hC hBd hBN.1 g2 ⟨_, rfl, osn (op_rfK 1 hC (by omega) (by omega) rfl bad)⟩⟩)
end OLN
