section CEL
variable {n0 d : Nat} {K : z_K} {I I' : z_I} {L : z_L} {P : z_K → z_I → z_L → Prop} {np nr nb na t : Nat} {pid pts rid rp rk ln cx cy bid m : Nat → Nat} {par : Nat → Option Nat} {X Y : Nat → List Int32} {A : Int32 → Int32 → Option (Int32 × Int32)} {p0 p1 p2 : Int32} {g : Nat → Int32 × Int32} {p n : Nat} {s : Int32}
theorem ceB_f (h : Fz (gT K) I I') : ceB I' g p n s = ceB I g p n s ∧ ceW I' g p n s = ceW I g p n s := by
  have e66 : I' 66 = I 66 := funext fun j => h 66 j (by unfold gT gS; omega)
  have e72 : I' 72 = I 72 := funext fun j => h 72 j (by unfold gT gS; omega)
  have e73 : I' 73 = I 73 := funext fun j => h 73 j (by unfold gT gS; omega)
  have e74 : I' 74 = I 74 := funext fun j => h 74 j (by unfold gT gS; omega)
  unfold ceB ceW wyP cvP
  rw [e66, e72, e73, e74]
  exact ⟨rfl, rfl⟩
theorem gX_k {K' : z_K} (h : KD K K') : gX K' = gX K := by funext a j; unfold gX; rw [gS_k h]
theorem cvS_X {o : Nat} (h1 : 36 ≤ o) (h2 : o ≤ 48) {a j : Nat} (h : cvS o a j) : gX K a j := h.elim (fun z => gX_s (trS_g z)) (fun z => Or.inr (by omega))
/-- the house's own shape -/
theorem ShL_48 (hC : CLay K) : ShL K 48 := by
  have q0 := co_48 hC
  have q1 := ca_49 hC
  have q2 := ca_50 hC
  exact ⟨by omega, by omega, q2.2.1, q0.2, q1.1, q2.1, q1.2.2, q2.2.2⟩
theorem op_cells (hW : Wd K I np nr nb na t pid pts rid rp rk ln cx cy bid m par X Y A) (hB : WdB I np A) (hst : I 26 1 = I 113 1 ∧ 1 ≤ (I 113 1).toInt ∧ (I 113 1).toInt ≤ 500) (hs0 : ∀ K' I' L', KD K K' → Fz (gX K) I I' → P K' I' L') (hs1 : ∀ k, 1 ≤ k → k ≤ 7 → ∀ K' I' L', KD K K' → Fz (gS K) (rfI I k) I' → P K' I' L') :
    OpA n0 xX12_cells xX13_cells (d + 5) (d + 12) 0 0 [.int p0, .int p1, .int p2] K I L P := by
  have hC := hW.1
  have hM := hW.2.1
  have hP := hW.2.2.2.1
  have hN := hW.2.2.2.2.1
  have hnp := hP.n
  have hr : ∀ k, 1 ≤ k → k ≤ 7 → P K (rfI I k) L := fun k h1 h7 => hs1 k h1 h7 K _ L KD.rf Fz.rfl'
  by_cases g1 : 0 ≤ p0.toInt ∧ p0.toInt < np
  · obtain ⟨i, rfl, _, ei⟩ := q_of g1.1
    have hi : i < np := by omega
    have hlt := hP.lt hi
    have hpt := (hN.2.2 i hi).2.2
    refine wp_X12_cells hC (c12_pieceOf_t hC hP hN.1 hi ⟨_, rfl, oss (c12_isSize hC ⟨_, rfl, ?_⟩)⟩)
    by_cases g2 : 0 ≤ p1.toInt ∧ p1.toInt < 11
    · rw [bI_t g2]
      refine iq (by decide) (c12_outside hC ⟨_, rfl, ?_⟩)
      by_cases gb : bnd p2 0 1000 < 0
      · obtain ⟨k, k1, k7, ek⟩ := bnd_k gb
        exact iq (fun z => by rw [z] at gb; exact absurd gb (by decide)) (op_rfK k hC k1 k7 ek (wp_X13_cells hM (c13_wrongDrawn (hW.fT KD.rf (rf_gT Fz.rfl')) hi (fun z => absurd g2 z) (fun _ _ => ⟨_, rfl, ip gb (op_rr k hM k7 ek (hr k k1 k7))⟩) (fun s hs es nb => absurd gb nb))))
      · rw [bnd_0 gb]
        obtain ⟨s, rfl, _, es⟩ := q_of g2.1
        have hs11 : s < 11 := by omega
        refine ip rfl (c12_sndAt hW hi hs11 (fun K1 I1 L1 k1 f1 e1 d1 n1 => ⟨_, rfl, hC.kd k1, ?_⟩))
        have w1 := hW.fr k1 f1
        have f1T : Fz (gT K) I I1 := f1.mono (fun _ _ z => gT_s z)
        cases eD : DAt I X Y rp rk nr t pts par np s p2 i with
        | none =>
          rw [bI_f (by simp)]
          refine ip rfl (op_rfK 7 (hC.kd k1) (by omega) (by omega) rfl ?_)
          have w2 := hW.fT k1 (rf_gT (k := 7) (v := I1 1 7 + 1) f1)
          refine wp_X13_cells w2.2.1 (c13_wrongDrawn w2 hi (fun z => absurd g2 z) (fun _ z => absurd z gb) (fun s' hs' es' _ I2 L2 f2 hx => ⟨_, rfl, ?_⟩))
          have ess : s' = s := ((q_ni (by omega) (by omega)).mp es').symm
          subst ess
          rw [DAt_f (rf_gT f1), eD, if_pos rfl]
          refine ip (by decide) (op_rr 7 (hM.kd k1) (by omega) rfl (hs1 7 (by omega) (by omega) K1 _ _ k1 ?_))
          rw [gS_k k1] at f2
          exact rf_late f1 f2
        | some g =>
          rw [bI_t (by simp)]
          have hbg := DAt_b hW hB hi hs11 eD
          have hB1 := hB.fT f1T
          have e26 : I1 26 1 = I 113 1 := by rw [f1 26 1 (by unfold gS; omega)]; exact hst.1
          refine iq (by decide) ?_
          rw [e26]
          have tail : ∀ (r : Int32) (I3 : z_I) (L3 : z_L), Fz (gX K) I I3 → (ceW I g i (pts i) (I 113 1) = true → r = 0) → (ceW I g i (pts i) (I 113 1) = false → r = nI (fcA (ceB I g i (pts i) (I 113 1)) 24).1) → OpR n0 xX13_cells (d + 12) [.int (nI i), .int (nI s), .int p2] K1 I3 L3 (P K1) r := by
            intro r I3 L3 f3 ra rs
            have f3T : Fz (gT K) I I3 := f3.mono (fun _ _ z => gX_T z)
            have w3 := hW.fT k1 f3T
            refine wp_X13_cells w3.2.1 (c13_wrongDrawn w3 hi (fun z => absurd g2 z) (fun _ z => absurd z gb) (fun s' hs' es' _ I2 L2 f2 hx => ⟨_, rfl, ?_⟩))
            have ess : s' = s := ((q_ni (by omega) (by omega)).mp es').symm
            subst ess
            rw [DAt_f f3T] at hx ⊢
            rw [eD, if_neg (show ¬ (some g = none) by simp)]
            rw [gS_k k1] at f2
            have f2X : Fz (gX K) I I2 := f3.trans (f2.mono (fun _ _ z => gX_s z))
            have f2T : Fz (gT K) I I2 := f2X.mono (fun _ _ z => gX_T z)
            have e113 : I2 113 1 = I 113 1 := f2T 113 1 (by unfold gT gS; omega)
            refine iq (by decide) (c13_findCells (d := d + 7) (g := g) (hW.fT k1 f2T) (hB.fT f2T) hi (hx g eD) hbg (by rw [e113]; exact hst.2.1) (by rw [e113]; have := hst.2.2; omega) (fun I4 f4 wb => ?_) (fun I4 f4 wb _ => ?_))
            · rw [e113] at wb
              have wb' : ceW I2 g i (pts i) (I 113 1) = true := wb
              rw [(ceB_f f2T).2] at wb'
              rw [gS_k k1] at f4
              exact ⟨_, rfl, by rw [ra wb'], hs0 K1 I4 L2 k1 (f2X.trans (f4.mono (fun _ _ z => gX_s z)))⟩
            · rw [e113] at wb ⊢
              have wb' : ceW I2 g i (pts i) (I 113 1) = false := wb
              rw [(ceB_f f2T).2] at wb'
              rw [gS_k k1] at f4
              refine ⟨_, rfl, ?_, hs0 K1 I4 L2 k1 (f2X.trans (f4.mono (fun _ _ z => gX_s z)))⟩
              rw [rs wb', ← (ceB_f (g := g) (p := i) (n := pts i) (s := I 113 1) f2T).1]
              rfl
          refine c10_cover (d := d) (g := g) w1 hB1 hi (fun k hk => d1.pl hi n1 eD hk) hbg ((ShL_48 hC).kd k1) hst.2.1 (by have := hst.2.2; omega) (fun I3 f3 wb => ⟨_, rfl, _, rfl, tail _ I3 _ ((f1.mono (fun _ _ z => gX_s z)).trans (f3.mono (fun _ _ z => cvS_X (by omega) (by omega) z))) (fun _ => rfl) (fun z => ?_)⟩) (fun I3 f3 wb _ => ⟨_, rfl, _, rfl, tail _ I3 _ ((f1.mono (fun _ _ z => gX_s z)).trans (f3.mono (fun _ _ z => cvS_X (by omega) (by omega) z))) (fun z => ?_) (fun _ => ?_)⟩)
          · rw [(ceB_f f1T).2, z] at wb; exact absurd wb (by decide)
          · rw [(ceB_f f1T).2, z] at wb; exact absurd wb (by decide)
          · rw [(ceB_f f1T).1]
    · rw [bI_f g2]
      exact ip rfl (op_rfK 1 hC (by omega) (by omega) rfl (wp_X13_cells hM (c13_wrongDrawn (hW.fT KD.rf (rf_gT Fz.rfl')) hi (fun _ => ⟨_, rfl, ip (by decide) (op_rr 1 hM (by omega) rfl (hr 1 (by omega) (by omega)))⟩) (fun z => absurd z g2) (fun s hs es => absurd (by rw [es, q_nI (by omega)]; omega) g2))))
  · exact wp_X12_cells hC (c12_pieceOf_f hC hP hN.1 g1 ⟨_, rfl, osn (op_rfK 1 hC (by omega) (by omega) rfl (wp_X13_cells hM (c13_wrongDrawn_f (hW.fT KD.rf (rf_gT Fz.rfl')) g1 ⟨_, rfl, ip (by decide) (op_rr 1 hM (by omega) rfl (hr 1 (by omega) (by omega)))⟩)))⟩)
end CEL
