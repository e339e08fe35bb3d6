section OON
variable {n0 d : Nat} {K K' : z_K} {I I' : z_I} {L : z_L} {np nr nb na t : Nat} {pid pts rid rp rk ln cx cy bid m : Nat → Nat} {par : Nat → Option Nat} {X Y : Nat → List Int32} {A : Int32 → Int32 → Option (Int32 × Int32)} {p s b : Nat} {P : z_K → z_I → z_L → Prop} {p0 p1 p2 p3 p4 : Int32}
/-- the reference draws for a body -/
theorem c13_drwFor {Q : z_q} {i : Nat} (hW : Wd K I np nr nb na t pid pts rid rp rk ln cx cy bid m par X Y A) (hi : i < np) (hb : b < nb)
    (h : ∀ I' L', Fz (gS K) I I' → (∀ g, DFo I X Y rp rk nr t pts par A np b i = some g → ∀ k, k < pts i → I' 92 k = (g k).1 ∧ I' 93 k = (g k).2) → Q (some (.int (bI (DFo I X Y rp rk nr t pts par A np b i ≠ none)))) I' L') : RM0 n0 xX13_drawFor (d + 11) [.ref (n0 + 59), .int (nI i), .int (nI b)] K I L Q := c13_drawF hW hi hb h
theorem op_on (hW : Wd K I np nr nb na t pid pts rid rp rk ln cx cy bid m par X Y A) (hs0 : ∀ K' I' L', KD K K' → Fz (gS K) I I' → P K' I' L') (hs1 : ∀ k, 1 ≤ k → k ≤ 7 → ∀ K' I' L', KD K K' → Fz (gS K) (rfI I k) I' → P K' I' L') :
    OpA n0 xX12_on xX13_on (d + 5) (d + 12) 0 0 [.int p0, .int p1, .int p2, .int p3] K I L P := by
  have hC := hW.1
  have hM := hW.2.1
  have hP := hW.2.2.2.1
  have hN := hW.2.2.2.2.1
  have hB := hW.2.2.2.2.2.2.2.2.2.1
  have hBN := hW.2.2.2.2.2.2.2.2.2.2.1
  have hnp := hP.n
  have hnb := hB.n
  have hr : ∀ k, 1 ≤ k → k ≤ 7 → P K (rfI I k) L := fun k h1 h7 => hs1 k h1 h7 K _ L KD.rf Fz.rfl'
  by_cases g1 : isPt np pts p0 p1
  · obtain ⟨i, j, rfl, rfl, hi, hj⟩ := isPt_of hnp g1
    have hj10 : j < 10 := by have := (hN.c i hi).2; omega
    by_cases g2 : 0 ≤ p2.toInt ∧ p2.toInt < nb
    · obtain ⟨b, rfl, hb1, eb⟩ := q_of g2.1
      have hb : b < nb := by omega
      refine wp_X12_on hC (c12_pieceWith_t hC hP hN.1 hN.c hi hj ⟨_, rfl, c12_bodyOf_t hC hB hBN.1 hb ⟨_, rfl, oss (oss (c12_isAxis hC ⟨_, rfl, ?_⟩))⟩⟩)
      by_cases g3 : 0 ≤ p3.toInt ∧ p3.toInt ≤ 1
      · rw [bI_t g3]
        refine iq (by decide) (c12_sndFor hW hi hb (fun K1 I1 L1 k1 f1 d1 n1 => ⟨_, rfl, hC.kd k1, ?_⟩))
        have w1 := hW.fr k1 f1
        have f1T : Fz (gT K) I I1 := f1.mono (fun _ _ z => gT_s z)
        cases eD : DFo I X Y rp rk nr t pts par A np b i with
        | none =>
          rw [bI_f (by simp)]
          refine ip rfl (op_rfKA 7 (hC.kd k1) (by omega) (by omega) rfl ?_)
          have w2 := hW.fT k1 (rf_gT (k := 7) (v := I1 1 7 + 1) f1)
          refine wp_X13_on w2.2.1 (c13_isPoint_t w2.2.1 w2.2.2.2.2.1.2.1 hnp w2.2.2.2.2.1.m hi hj ⟨_, rfl, iq (by decide) (c13_isBody w2.2.1 w2.2.2.2.2.2.2.2.2.2.2.1.2 (by omega) ⟨_, rfl, ?_⟩)⟩)
          rw [bI_t g2]
          refine iq (by decide) (c13_in_1 w2.2.1 ⟨_, rfl, ?_⟩)
          rw [bI_t g3]
          refine iq (by decide) (c13_drwFor w2 hi hb (fun I2 L2 f2 hx => ⟨_, rfl, ?_⟩))
          rw [DFo_f (rf_gT f1), eD, bI_f (by simp)]
          refine ip rfl (op_rrA 7 (hM.kd k1) (by omega) rfl (hs1 7 (by omega) (by omega) K1 _ _ k1 ?_))
          rw [gS_k k1] at f2
          exact rf_late f1 f2
        | some g =>
          rw [bI_t (by simp)]
          refine iq (by decide) (c2_placeOf w1 hi hj10 ⟨_, rfl, _, rfl, ?_⟩)
          refine wp_X13_on w1.2.1 (c13_isPoint_t w1.2.1 w1.2.2.2.2.1.2.1 hnp w1.2.2.2.2.1.m hi hj ⟨_, rfl, iq (by decide) (c13_isBody w1.2.1 w1.2.2.2.2.2.2.2.2.2.2.1.2 (by omega) ⟨_, rfl, ?_⟩)⟩)
          rw [bI_t g2]
          refine iq (by decide) (c13_in_1 w1.2.1 ⟨_, rfl, ?_⟩)
          rw [bI_t g3]
          refine iq (by decide) (c13_drwFor w1 hi hb (fun I2 L2 f2 hx => ⟨_, rfl, ?_⟩))
          rw [DFo_f f1T] at hx ⊢
          rw [eD, bI_t (show some g ≠ none by simp)]
          obtain ⟨x1, x2⟩ := hx g eD j hj
          obtain ⟨y1, y2⟩ := d1.pl hi n1 eD hj
          refine iq (by decide) ⟨fun _ => q_inn hj10 (by omega), fun _ => q_inn hj10 (by omega), ?_, hs0 K1 I2 L2 k1 ?_⟩
          · rw [q_cl (by omega), x1, x2, y1, y2]
          · rw [gS_k k1] at f2
            exact f1.trans f2
      · rw [bI_f g3]
        refine ip rfl (op_rfKA 2 hC (by omega) (by omega) rfl (wp_X13_on hM (c13_isPoint_t hM (hN.n' re_rf) hnp (hN.m' re_rf) hi hj ⟨_, rfl, iq (by decide) (c13_isBody hM (hBN.m' re_rf) (by omega) ⟨_, rfl, ?_⟩)⟩)))
        rw [bI_t g2]
        refine iq (by decide) (c13_in_1 hM ⟨_, rfl, ?_⟩)
        rw [bI_f g3]
        exact ip rfl (op_rrA 2 hM (by omega) rfl (hr 2 (by omega) (by omega)))
    · refine wp_X12_on hC (c12_pieceWith_t hC hP hN.1 hN.c hi hj ⟨_, rfl, c12_bodyOf_f hC hB hBN.1 g2 ⟨_, rfl, oss (osn (op_rfKA 1 hC (by omega) (by omega) rfl (wp_X13_on hM (c13_isPoint_t hM (hN.n' re_rf) hnp (hN.m' re_rf) hi hj ⟨_, rfl, iq (by decide) (c13_isBody hM (hBN.m' re_rf) (by omega) ⟨_, rfl, ?_⟩)⟩))))⟩⟩)
      rw [bI_f g2]
      exact ip rfl (op_rrA 1 hM (by omega) rfl (hr 1 (by omega) (by omega)))
  · have bad : OpR n0 xX13_on (d + 12) [.int p0, .int p1, .int p2, .int p3] K (zI I 1 1 (I 1 1 + 1)) L (P K) (1000000000 - (-1)) := wp_X13_on hM (c13_isPoint_f hM (hN.n' re_rf) hnp (hN.m' re_rf) g1 ⟨_, rfl, ip rfl (op_rrA 1 hM (by omega) rfl (hr 1 (by omega) (by omega)))⟩)
    by_cases g2 : 0 ≤ p2.toInt ∧ p2.toInt < nb
    · obtain ⟨b, rfl, hb1, eb⟩ := q_of g2.1
      exact wp_X12_on hC (c12_pieceWith_f hC hP hN.1 hN.c g1 ⟨_, rfl, c12_bodyOf_t hC hB hBN.1 (by omega) ⟨_, rfl, osn (op_rfKA 1 hC (by omega) (by omega) rfl bad)⟩⟩)
    · exact wp_X12_on hC (c12_pieceWith_f hC hP hN.1 hN.c g1 ⟨_, rfl, c12_bodyOf_f hC hB hBN.1 g2 ⟨_, rfl, osn (op_rfKA 1 hC (by omega) (by omega) rfl bad)⟩⟩)
end OON
