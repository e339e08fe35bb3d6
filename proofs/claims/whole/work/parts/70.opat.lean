section OAT
variable {n0 d : Nat} {K K' : z_K} {I I' : z_I} {L : z_L} {np nr nb na t : Nat} {pid pts rid rp rk ln cx cy bid m : Nat → Nat} {par : Nat → Option Nat} {X Y : Nat → List Int32} {A : Int32 → Int32 → Option (Int32 × Int32)} {p s b : Nat} {P : z_K → z_I → z_L → Prop} {p0 p1 p2 p3 p4 : Int32}
theorem op_rfKA {xr : z_X} {As : List Value} {w : Int32} {dr dd : Nat} (k : Nat) (hC : CLay K) (h1 : 1 ≤ k) (h7 : k ≤ 7) (hw : w.toInt = -(k : Int)) (h : OpR n0 xr dr As K (zI I 1 k (I 1 k + 1)) L (P K) (1000000000 - w)) :
    RM0 n0 xX12_refuseApart (dd + 1) [.ref (n0 + 0), .int w] K I L (fun vv I6 L7 => ∃ r8 : Int32, vv = some (.int r8) ∧ OpAQ n0 xr dr As P (some (.int r8)) K I6 L7) :=
  c12_refuseApart k hC h1 h7 hw ⟨_, rfl, _, rfl, h⟩
theorem bnd_neg {v : Int32} : bnd v 0 1000 < 0 ↔ ¬ (0 ≤ v.toInt ∧ v.toInt ≤ 1000) := by
  have e0 : (0 : Int32).toInt = 0 := rfl
  have e1 : (1000 : Int32).toInt = 1000 := rfl
  rcases bnd_cases v 0 1000 with ⟨e, g⟩ | ⟨e, g0, g⟩ | ⟨e, g0, g⟩
  · rw [e]; exact ⟨fun _ => by omega, fun _ => by decide⟩
  · rw [e]; exact ⟨fun _ => by omega, fun _ => by decide⟩
  · rw [e]; exact ⟨fun z => absurd z (by decide), fun z => absurd ⟨by omega, by omega⟩ z⟩
theorem op_at (hW : Wd K I np nr nb na t pid pts rid rp rk ln cx cy bid m par X Y A) (hs0 : ∀ K' I' L', KD K K' → Fz (gS K) I I' → P K' I' L') (hs1 : ∀ k, 1 ≤ k → k ≤ 7 → ∀ K' I' L', KD K K' → Fz (gS K) (rfI I k) I' → P K' I' L') :
    OpA n0 xX12_at xX13_at (d + 5) (d + 12) 0 0 [.int p0, .int p1, .int p2, .int p3, .int p4] K I L P := by
  have hC := hW.1
  have hM := hW.2.1
  have hP := hW.2.2.2.1
  have hN := hW.2.2.2.2.1
  have hnp := hP.n
  have hr : ∀ k, 1 ≤ k → k ≤ 7 → P K (rfI I k) L := fun k h1 h7 => hs1 k h1 h7 K _ L KD.rf Fz.rfl'
  by_cases g1 : isPt np pts p0 p1
  · obtain ⟨i, j, rfl, rfl, hi, hj⟩ := isPt_of hnp g1
    have hj10 : j < 10 := by have := (hN.c i hi).2; omega
    refine wp_X12_at hC (c12_pieceWith_t hC hP hN.1 hN.c hi hj ⟨_, rfl, oss (c12_isSize hC ⟨_, rfl, ?_⟩)⟩)
    by_cases g2 : 0 ≤ p2.toInt ∧ p2.toInt < 11
    · rw [bI_t g2]
      refine iq (by decide) (c12_isAxis hC ⟨_, rfl, ?_⟩)
      have ref : ∀ {K1 : z_K} {I1 : z_I} {L1 : z_L} {Q : z_q}, MLay K1 → RE I1 I → _ → _ := fun {K1 I1 L1 Q} hM1 hre h => wp_X13_at (n0 := n0) (d := d + 11) (K := K1) (I := I1) (L := L1) (Q := Q) (p0 := nI i) (p1 := nI j) (p2 := p2) (p3 := p3) (p4 := p4) hM1 (c13_isPoint_t hM1 (hN.n' hre) hnp (hN.m' hre) hi hj ⟨_, rfl, iq (by decide) (c13_isSize hM1 ⟨_, rfl, by rw [bI_t g2]; exact iq (by decide) (c13_in_1 hM1 ⟨_, rfl, h⟩)⟩)⟩)
      by_cases g3 : 0 ≤ p4.toInt ∧ p4.toInt ≤ 1
      · rw [bI_t g3]
        refine iq (by decide) (c12_outside hC ⟨_, rfl, ?_⟩)
        by_cases gb : bnd p3 0 1000 < 0
        · have rr : ∀ (w : Int32) (k : Nat), bnd p3 0 1000 = w → 1 ≤ k → k ≤ 7 → w.toInt = -(k : Int) → RM0 n0 xX12_refuseApart (d + 4) [.ref (n0 + 0), .int w] K I L (fun vv I6 L7 => ∃ r8 : Int32, vv = some (.int r8) ∧ OpAQ n0 xX13_at (d + 12) [.int (nI i), .int (nI j), .int p2, .int p3, .int p4] P (some (.int r8)) K I6 L7) := by
            intro w k ew h1 h7 hk
            refine op_rfKA k hC h1 h7 hk (ref hM re_rf ?_)
            rw [bI_t g3]
            refine iq (by decide) (c13_wrongDrawn (hW.fT KD.rf (rf_gT Fz.rfl')) hi (fun z => absurd g2 z) (fun _ _ => ⟨_, rfl, ?_⟩) (fun s hs es nb => absurd gb nb))
            rw [ew] at gb ⊢
            exact ip gb (op_rrA k hM h7 hk (hr k h1 h7))
          rcases bnd_cases p3 0 1000 with ⟨e, g⟩ | ⟨e, g0, g⟩ | ⟨e, g0, g⟩
          · rw [e]; exact iq (by decide) (rr _ 4 e (by omega) (by omega) rfl)
          · rw [e]; exact iq (by decide) (rr _ 6 e (by omega) (by omega) rfl)
          · rw [e] at gb; exact absurd gb (by decide)
        · have e0 : bnd p3 0 1000 = 0 := by
            rcases bnd_cases p3 0 1000 with ⟨e, g⟩ | ⟨e, g0, g⟩ | ⟨e, g0, g⟩
            · rw [e] at gb; exact absurd (by decide) gb
            · rw [e] at gb; exact absurd (by decide) gb
            · exact e
          rw [e0]
          obtain ⟨s, rfl, _, es⟩ := q_of g2.1
          have hs11 : s < 11 := by omega
          refine ip rfl (c12_sndAt hW hi hs11 (fun K1 I1 L1 k1 f1 e1 d1 n1 => ⟨_, rfl, hC.kd k1, ?_⟩))
          have w1 := hW.fr k1 f1
          have f1T : Fz (gT K) I I1 := f1.mono (fun _ _ z => gT_s z)
          cases eD : DAt I X Y rp rk nr t pts par np s p3 i with
          | none =>
            rw [bI_f (by simp)]
            refine ip rfl (op_rfKA 7 (hC.kd k1) (by omega) (by omega) rfl ?_)
            have w2 := hW.fT k1 (rf_gT (k := 7) (v := I1 1 7 + 1) f1)
            refine wp_X13_at w2.2.1 (c13_isPoint_t w2.2.1 w2.2.2.2.2.1.2.1 hnp w2.2.2.2.2.1.m hi hj ⟨_, rfl, iq (by decide) (c13_isSize w2.2.1 ⟨_, rfl, ?_⟩)⟩)
            rw [bI_t g2]
            refine iq (by decide) (c13_in_1 w2.2.1 ⟨_, rfl, ?_⟩)
            rw [bI_t g3]
            refine iq (by decide) (c13_wrongDrawn w2 hi (fun z => absurd g2 z) (fun _ z => absurd z gb) (fun s' hs' es' _ I2 L2 f2 hx => ⟨_, rfl, ?_⟩))
            have ess : s' = s := ((q_ni (by omega) (by omega)).mp es').symm
            subst ess
            rw [DAt_f (rf_gT f1), eD, if_pos rfl]
            refine ip (by decide) (op_rrA 7 (hM.kd k1) (by omega) rfl (hs1 7 (by omega) (by omega) K1 _ _ k1 ?_))
            rw [gS_k k1] at f2
            exact rf_late f1 f2
          | some g =>
            rw [bI_t (by simp)]
            refine iq (by decide) (c2_placeOf w1 hi hj10 ⟨_, rfl, _, rfl, ?_⟩)
            refine wp_X13_at w1.2.1 (c13_isPoint_t w1.2.1 w1.2.2.2.2.1.2.1 hnp w1.2.2.2.2.1.m hi hj ⟨_, rfl, iq (by decide) (c13_isSize w1.2.1 ⟨_, rfl, ?_⟩)⟩)
            rw [bI_t g2]
            refine iq (by decide) (c13_in_1 w1.2.1 ⟨_, rfl, ?_⟩)
            rw [bI_t g3]
            refine iq (by decide) (c13_wrongDrawn w1 hi (fun z => absurd g2 z) (fun _ z => absurd z gb) (fun s' hs' es' _ I2 L2 f2 hx => ⟨_, rfl, ?_⟩))
            have ess : s' = s := ((q_ni (by omega) (by omega)).mp es').symm
            subst ess
            rw [DAt_f f1T] at hx ⊢
            rw [eD, if_neg (show ¬ (some g = none) by simp)]
            obtain ⟨x1, x2⟩ := hx g eD j hj
            obtain ⟨y1, y2⟩ := d1.pl hi n1 eD hj
            refine iq (by decide) ⟨fun _ => q_inn hj10 (by omega), fun _ => q_inn hj10 (by omega), ?_, hs0 K1 I2 L2 k1 ?_⟩
            · rw [q_cl (by omega), x1, x2, y1, y2]
            · rw [gS_k k1] at f2
              exact f1.trans f2
      · rw [bI_f g3]
        refine ip rfl (op_rfKA 2 hC (by omega) (by omega) rfl (ref hM re_rf ?_))
        rw [bI_f g3]
        exact ip rfl (op_rrA 2 hM (by omega) rfl (hr 2 (by omega) (by omega)))
    · rw [bI_f g2]
      refine ip rfl (op_rfKA 1 hC (by omega) (by omega) rfl (wp_X13_at hM (c13_isPoint_t hM (hN.n' re_rf) hnp (hN.m' re_rf) hi hj ⟨_, rfl, iq (by decide) (c13_isSize hM ⟨_, rfl, ?_⟩)⟩)))
      rw [bI_f g2]
      exact ip rfl (op_rrA 1 hM (by omega) rfl (hr 1 (by omega) (by omega)))
  · exact wp_X12_at hC (c12_pieceWith_f hC hP hN.1 hN.c g1 ⟨_, rfl, osn (op_rfKA 1 hC (by omega) (by omega) rfl (wp_X13_at hM (c13_isPoint_f hM (hN.n' re_rf) hnp (hN.m' re_rf) g1 ⟨_, rfl, ip rfl (op_rrA 1 hM (by omega) rfl (hr 1 (by omega) (by omega)))⟩)))⟩)
end OAT
