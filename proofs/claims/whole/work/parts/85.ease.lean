section OEM
variable {n0 d : Nat} {K K' : z_K} {I I' : z_I} {L : z_L} {np nr nb na t ns : Nat} {pid pts rid rp rk ln cx cy bid m sid s1 s2 sa sb sc se nc : Nat → Nat} {par : Nat → Option Nat} {X Y : Nat → List Int32} {A : Int32 → Int32 → Option (Int32 × Int32)} {P : z_K → z_I → z_L → Prop} {p0 p1 p2 : Int32}
theorem op_ease (hW : Wd K I np nr nb na t pid pts rid rp rk ln cx cy bid m par X Y A) (hB : WdB I np A) (hSK : SmK K ns sid) (hSD : SmD K I ns np sid pid pts s1 s2 sa sb sc se) (hn : SmN I ns) (hs0 : ∀ K' I' L', KD K K' → Fz (gS K) I I' → P K' I' L') (hs1 : ∀ k, 1 ≤ k → k ≤ 7 → ∀ K' I' L', KD K K' → Fz (gS K) (rfI I k) I' → P K' I' L') :
    OpA n0 xX12_ease xX13_ease (d + 7) (d + 13) 0 0 [.int p0, .int p1, .int p2] K I L P := by
  have hC := hW.1
  have hM := hW.2.1
  have h20 := hSK.1
  have hr : ∀ k, 1 ≤ k → k ≤ 7 → P K (rfI I k) L := fun k h1 h7 => hs1 k h1 h7 K _ L KD.rf Fz.rfl'
  by_cases g1 : 0 ≤ p0.toInt ∧ p0.toInt < ns
  · obtain ⟨s, rfl, _, es⟩ := q_of g1.1
    have hs : s < ns := by omega
    have rW : ∀ k v, Wd K (zI I 1 k v) np nr nb na t pid pts rid rp rk ln cx cy bid m par X Y A := fun k v => hW.fT KD.rf (rf_gT Fz.rfl')
    refine wp_X12_ease hC (c12_seamRef (d := d) hW hB hSK hSD hn.1 hs (fun g => ⟨_, rfl, hC, iq (by decide) (op_rfKA 1 hC (by omega) (by omega) rfl (wp_X13_ease hM (c13_wrongSeam (rW _ _) (hB.fT (rf_gT (K := K) Fz.rfl')) hSK (hSD.fT hSK KD.rf (rf_gT Fz.rfl')) (hn.m' re_rf) hs (fun _ => ⟨_, rfl, ip (by decide) (op_rrA 1 hM (by omega) rfl (hr 1 (by omega) (by omega)))⟩) (fun z => absurd z g) (fun z hz ez => absurd (by rw [ez, q_nI (by omega)]; omega) g) (fun z hz ez => absurd (by rw [ez, q_nI (by omega)]; omega) g))))⟩) (fun g gb => ⟨_, rfl, hC, ?_⟩) (fun z hz ez gb e K1 I1 L1 k1 f1 => ⟨_, rfl, hC.kd k1, ?_⟩) (fun z hz ez gb g1 g2 eg1 eg2 K1 I1 L1 k1 f1 x12 x13 => ⟨_, rfl, hC.kd k1, ?_⟩))
    · obtain ⟨k, k1, k7, ek⟩ := bnd_k gb
      exact iq (fun z => by rw [z] at gb; exact absurd gb (by decide)) (op_rfKA k hC k1 k7 ek (wp_X13_ease hM (c13_wrongSeam (rW _ _) (hB.fT (rf_gT (K := K) Fz.rfl')) hSK (hSD.fT hSK KD.rf (rf_gT Fz.rfl')) (hn.m' re_rf) hs (fun z => absurd g z) (fun _ _ => ⟨_, rfl, ip gb (op_rrA k hM k7 ek (hr k k1 k7))⟩) (fun z hz ez nb => absurd gb nb) (fun z hz ez nb => absurd gb nb))))
    · refine iq (by decide) (op_rfKA 7 (hC.kd k1) (by omega) (by omega) rfl ?_)
      have fT := rf_gT (k := 7) (v := I1 1 7 + 1) f1
      have w2 := hW.fT k1 fT
      refine wp_X13_ease w2.2.1 (c13_wrongSeam w2 (hB.fT fT) (hSK.kd k1) (hSD.fT hSK k1 fT) (by rw [fT 59 62 (by unfold gT gS; omega)]; exact hn.2) hs (fun g => absurd (by rw [ez, q_nI (by omega)]; omega) g) (fun _ w => absurd w gb) (fun z' hz' ez' _ _ I2 L2 f2 => ⟨_, rfl, ip (by decide) (op_rrA 7 (hM.kd k1) (by omega) rfl (hs1 7 (by omega) (by omega) K1 _ _ k1 ?_))⟩) (fun z' hz' ez' _ g1 g2 eg1 eg2 => ?_))
      · rw [gS_k k1] at f2
        exact rf_late f1 f2
      · exfalso
        have ess : z' = z := (q_ni (by omega) (by omega)).mp (ez'.symm.trans ez)
        subst ess
        rw [DAt_f fT] at eg1 eg2
        rcases e with e | e
        · rw [e] at eg1; cases eg1
        · rw [e] at eg2; cases eg2
    · refine ip rfl ⟨q_inn (by omega) (by omega), sid s, by rw [q_cl (by omega), k1.2.2 21 s (by omega)]; exact (hSK.2.1 s hs).1, by have := (hSK.2.1 s hs).2.2.1; rw [k1.1]; omega, by rw [k1.2.1]; exact (hSK.2.1 s hs).2.2.2.1, ?_⟩
      have f1T : Fz (gT K) I I1 := f1.mono (fun _ _ w => gT_s w)
      have w1 := hW.fr k1 f1
      have hSK1 := hSK.kd k1
      have hSD1 := hSD.fT hSK k1 f1T
      have tail : ∀ r : Int32, (∀ I2 : z_I, Fz (gT K) I I2 → I2 59 75 = LenP I g1 (s1 s) (pts (s1 s)) (sa s) (sb s) → I2 59 76 = LenP I g2 (s2 s) (pts (s2 s)) (sc s) (se s) → ∀ L2, P K1 I2 L2 → (some (Value.int ((I2 59 76) - (I2 59 75))) = some (Value.int r) ∧ P K1 I2 L2)) → OpR n0 xX13_ease (d + 13) [.int (nI s), .int p1, .int p2] K1 I1 L1 (P K1) r := by
        intro r hr2
        refine wp_X13_ease w1.2.1 (c13_wrongSeam w1 (hB.fT f1T) hSK1 hSD1 (by rw [f1T 59 62 (by unfold gT gS; omega)]; exact hn.2) hs (fun g => absurd (by rw [ez, q_nI (by omega)]; omega) g) (fun _ w => absurd w gb) (fun z' hz' ez' _ e I2 L2 f2 => ?_) (fun z' hz' ez' _ g1' g2' eg1' eg2' I2 L2 f2 y75 y76 => ⟨_, rfl, iq (by decide) ?_⟩))
        · exfalso
          have ess : z' = z := (q_ni (by omega) (by omega)).mp (ez'.symm.trans ez)
          subst ess
          rw [DAt_f f1T, DAt_f f1T, eg1, eg2] at e
          rcases e with e | e <;> cases e
        · have ess : z' = z := (q_ni (by omega) (by omega)).mp (ez'.symm.trans ez)
          subst ess
          rw [DAt_f f1T] at eg1' eg2'
          rw [eg1] at eg1'
          rw [eg2] at eg2'
          have h1 := Option.some.inj eg1'
          have h2 := Option.some.inj eg2'
          rw [← h1, LenP_f f1T] at y75
          rw [← h2, LenP_f f1T] at y76
          rw [gS_k k1] at f2
          exact hr2 I2 ((f1.trans f2).mono (fun _ _ w => gT_s w)) y75 y76 L2 (hs0 K1 I2 L2 k1 (f1.trans f2))
      obtain ⟨b1, b2, b3, b4, b5, b6, b7, b8⟩ := hSK1.2.1 s hs
      refine wp_X8_easeDrawn ⟨by omega, b4, _, rfl, _, rfl, tail _ (fun I2 f2 y75 y76 L2 hp => ⟨?_, hp⟩)⟩
      rw [y75, y76, x12, x13]
  · exact wp_X12_ease hC (c12_seamRef_f (d := d) hW hSK hn.1 g1 ⟨_, rfl, hC, iq (by decide) (op_rfKA 1 hC (by omega) (by omega) rfl (wp_X13_ease hM (c13_wrongSeam_f hM h20 (hn.m' re_rf) g1 ⟨_, rfl, ip (by decide) (op_rrA 1 hM (by omega) rfl (hr 1 (by omega) (by omega)))⟩)))⟩)
theorem op_meets (hW : Wd K I np nr nb na t pid pts rid rp rk ln cx cy bid m par X Y A) (hB : WdB I np A) (hSK : SmK K ns sid) (hSD : SmD K I ns np sid pid pts s1 s2 sa sb sc se) (hn : SmN I ns) (hs0 : ∀ K' I' L', KD K K' → Fz (gS K) I I' → P K' I' L') (hs1 : ∀ k, 1 ≤ k → k ≤ 7 → ∀ K' I' L', KD K K' → Fz (gS K) (rfI I k) I' → P K' I' L') :
    OpA n0 xX12_meets xX13_meets (d + 7) (d + 13) 0 0 [.int p0, .int p1, .int p2] K I L P := by
  have hC := hW.1
  have hM := hW.2.1
  have h20 := hSK.1
  have hr : ∀ k, 1 ≤ k → k ≤ 7 → P K (rfI I k) L := fun k h1 h7 => hs1 k h1 h7 K _ L KD.rf Fz.rfl'
  by_cases g1 : 0 ≤ p0.toInt ∧ p0.toInt < ns
  · obtain ⟨s, rfl, _, es⟩ := q_of g1.1
    have hs : s < ns := by omega
    have rW : ∀ k v, Wd K (zI I 1 k v) np nr nb na t pid pts rid rp rk ln cx cy bid m par X Y A := fun k v => hW.fT KD.rf (rf_gT Fz.rfl')
    refine wp_X12_meets hC (c12_seamRef (d := d) hW hB hSK hSD hn.1 hs (fun g => ⟨_, rfl, hC, iq (by decide) (op_rfK 1 hC (by omega) (by omega) rfl (wp_X13_meets hM (c13_wrongSeam (rW _ _) (hB.fT (rf_gT (K := K) Fz.rfl')) hSK (hSD.fT hSK KD.rf (rf_gT Fz.rfl')) (hn.m' re_rf) hs (fun _ => ⟨_, rfl, ip (by decide) (op_rr 1 hM (by omega) rfl (hr 1 (by omega) (by omega)))⟩) (fun z => absurd z g) (fun z hz ez => absurd (by rw [ez, q_nI (by omega)]; omega) g) (fun z hz ez => absurd (by rw [ez, q_nI (by omega)]; omega) g))))⟩) (fun g gb => ⟨_, rfl, hC, ?_⟩) (fun z hz ez gb e K1 I1 L1 k1 f1 => ⟨_, rfl, hC.kd k1, ?_⟩) (fun z hz ez gb g1 g2 eg1 eg2 K1 I1 L1 k1 f1 x12 x13 => ⟨_, rfl, hC.kd k1, ?_⟩))
    · obtain ⟨k, k1, k7, ek⟩ := bnd_k gb
      exact iq (fun z => by rw [z] at gb; exact absurd gb (by decide)) (op_rfK k hC k1 k7 ek (wp_X13_meets hM (c13_wrongSeam (rW _ _) (hB.fT (rf_gT (K := K) Fz.rfl')) hSK (hSD.fT hSK KD.rf (rf_gT Fz.rfl')) (hn.m' re_rf) hs (fun z => absurd g z) (fun _ _ => ⟨_, rfl, ip gb (op_rr k hM k7 ek (hr k k1 k7))⟩) (fun z hz ez nb => absurd gb nb) (fun z hz ez nb => absurd gb nb))))
    · refine iq (by decide) (op_rfK 7 (hC.kd k1) (by omega) (by omega) rfl ?_)
      have fT := rf_gT (k := 7) (v := I1 1 7 + 1) f1
      have w2 := hW.fT k1 fT
      refine wp_X13_meets w2.2.1 (c13_wrongSeam w2 (hB.fT fT) (hSK.kd k1) (hSD.fT hSK k1 fT) (by rw [fT 59 62 (by unfold gT gS; omega)]; exact hn.2) hs (fun g => absurd (by rw [ez, q_nI (by omega)]; omega) g) (fun _ w => absurd w gb) (fun z' hz' ez' _ _ I2 L2 f2 => ⟨_, rfl, ip (by decide) (op_rr 7 (hM.kd k1) (by omega) rfl (hs1 7 (by omega) (by omega) K1 _ _ k1 ?_))⟩) (fun z' hz' ez' _ g1 g2 eg1 eg2 => ?_))
      · rw [gS_k k1] at f2
        exact rf_late f1 f2
      · exfalso
        have ess : z' = z := (q_ni (by omega) (by omega)).mp (ez'.symm.trans ez)
        subst ess
        rw [DAt_f fT] at eg1 eg2
        rcases e with e | e
        · rw [e] at eg1; cases eg1
        · rw [e] at eg2; cases eg2
    · refine ip rfl ⟨q_inn (by omega) (by omega), sid s, by rw [q_cl (by omega), k1.2.2 21 s (by omega)]; exact (hSK.2.1 s hs).1, by have := (hSK.2.1 s hs).2.2.1; rw [k1.1]; omega, by rw [k1.2.1]; exact (hSK.2.1 s hs).2.2.2.1, ?_⟩
      have f1T : Fz (gT K) I I1 := f1.mono (fun _ _ w => gT_s w)
      have w1 := hW.fr k1 f1
      have hSK1 := hSK.kd k1
      have hSD1 := hSD.fT hSK k1 f1T
      have tail : ∀ r : Int32, (∀ I2 : z_I, Fz (gT K) I I2 → I2 59 75 = LenP I g1 (s1 s) (pts (s1 s)) (sa s) (sb s) → I2 59 76 = LenP I g2 (s2 s) (pts (s2 s)) (sc s) (se s) → ∀ L2, P K1 I2 L2 → RM0 n0 xX13_doesMeet (d + 12) [.ref (n0 + 59), .int (nI s)] K1 I2 L2 (fun vv I5 L6 => ∃ r7 : Int32, vv = some (.int r7) ∧ (some (Value.int (if r7 = 0 then 0 else 1)) = some (Value.int r) ∧ P K1 I5 L6))) → OpR n0 xX13_meets (d + 13) [.int (nI s), .int p1, .int p2] K1 I1 L1 (P K1) r := by
        intro r hr2
        refine wp_X13_meets w1.2.1 (c13_wrongSeam w1 (hB.fT f1T) hSK1 hSD1 (by rw [f1T 59 62 (by unfold gT gS; omega)]; exact hn.2) hs (fun g => absurd (by rw [ez, q_nI (by omega)]; omega) g) (fun _ w => absurd w gb) (fun z' hz' ez' _ e I2 L2 f2 => ?_) (fun z' hz' ez' _ g1' g2' eg1' eg2' I2 L2 f2 y75 y76 => ⟨_, rfl, iq (by decide) ?_⟩))
        · exfalso
          have ess : z' = z := (q_ni (by omega) (by omega)).mp (ez'.symm.trans ez)
          subst ess
          rw [DAt_f f1T, DAt_f f1T, eg1, eg2] at e
          rcases e with e | e <;> cases e
        · have ess : z' = z := (q_ni (by omega) (by omega)).mp (ez'.symm.trans ez)
          subst ess
          rw [DAt_f f1T] at eg1' eg2'
          rw [eg1] at eg1'
          rw [eg2] at eg2'
          have h1 := Option.some.inj eg1'
          have h2 := Option.some.inj eg2'
          rw [← h1, LenP_f f1T] at y75
          rw [← h2, LenP_f f1T] at y76
          rw [gS_k k1] at f2
          exact hr2 I2 ((f1.trans f2).mono (fun _ _ w => gT_s w)) y75 y76 L2 (hs0 K1 I2 L2 k1 (f1.trans f2))
      refine c8_isMet (d := d + 5) hSK1 hSD1 hs x12 x13 ⟨_, rfl, _, rfl, tail _ (fun I2 f2 y75 y76 L2 hp => c13_doesMeet (d := d + 11) w1.2.1 h20 hs y75 y76 ⟨_, rfl, ?_, hp⟩)⟩
      rw [MtS_f f2, MtS_f f1T]
  · exact wp_X12_meets hC (c12_seamRef_f (d := d) hW hSK hn.1 g1 ⟨_, rfl, hC, iq (by decide) (op_rfK 1 hC (by omega) (by omega) rfl (wp_X13_meets hM (c13_wrongSeam_f hM h20 (hn.m' re_rf) g1 ⟨_, rfl, ip (by decide) (op_rr 1 hM (by omega) rfl (hr 1 (by omega) (by omega)))⟩)))⟩)
theorem op_lost (hW : Wd K I np nr nb na t pid pts rid rp rk ln cx cy bid m par X Y A) (hB : WdB I np A) (hSK : SmK K ns sid) (hSD : SmD K I ns np sid pid pts s1 s2 sa sb sc se) (hNt : NtD I ns sid nc) (hn : SmN I ns) (hs0 : ∀ K' I' L', KD K K' → Fz (gS K) I I' → P K' I' L') (hs1 : ∀ k, 1 ≤ k → k ≤ 7 → ∀ K' I' L', KD K K' → Fz (gS K) (rfI I k) I' → P K' I' L') :
    OpA n0 xX12_lost xX13_lost (d + 7) (d + 13) 0 0 [.int p0, .int p1, .int p2] K I L P := by
  have hC := hW.1
  have hM := hW.2.1
  have h20 := hSK.1
  have hr : ∀ k, 1 ≤ k → k ≤ 7 → P K (rfI I k) L := fun k h1 h7 => hs1 k h1 h7 K _ L KD.rf Fz.rfl'
  by_cases g1 : 0 ≤ p0.toInt ∧ p0.toInt < ns
  · obtain ⟨s, rfl, _, es⟩ := q_of g1.1
    have hs : s < ns := by omega
    have rW : ∀ k v, Wd K (zI I 1 k v) np nr nb na t pid pts rid rp rk ln cx cy bid m par X Y A := fun k v => hW.fT KD.rf (rf_gT Fz.rfl')
    refine wp_X12_lost hC (c12_seamRef (d := d) hW hB hSK hSD hn.1 hs (fun g => ⟨_, rfl, hC, iq (by decide) (op_rfK 1 hC (by omega) (by omega) rfl (wp_X13_lost hM (c13_wrongSeam (rW _ _) (hB.fT (rf_gT (K := K) Fz.rfl')) hSK (hSD.fT hSK KD.rf (rf_gT Fz.rfl')) (hn.m' re_rf) hs (fun _ => ⟨_, rfl, ip (by decide) (op_rr 1 hM (by omega) rfl (hr 1 (by omega) (by omega)))⟩) (fun z => absurd z g) (fun z hz ez => absurd (by rw [ez, q_nI (by omega)]; omega) g) (fun z hz ez => absurd (by rw [ez, q_nI (by omega)]; omega) g))))⟩) (fun g gb => ⟨_, rfl, hC, ?_⟩) (fun z hz ez gb e K1 I1 L1 k1 f1 => ⟨_, rfl, hC.kd k1, ?_⟩) (fun z hz ez gb g1 g2 eg1 eg2 K1 I1 L1 k1 f1 x12 x13 => ⟨_, rfl, hC.kd k1, ?_⟩))
    · obtain ⟨k, k1, k7, ek⟩ := bnd_k gb
      exact iq (fun z => by rw [z] at gb; exact absurd gb (by decide)) (op_rfK k hC k1 k7 ek (wp_X13_lost hM (c13_wrongSeam (rW _ _) (hB.fT (rf_gT (K := K) Fz.rfl')) hSK (hSD.fT hSK KD.rf (rf_gT Fz.rfl')) (hn.m' re_rf) hs (fun z => absurd g z) (fun _ _ => ⟨_, rfl, ip gb (op_rr k hM k7 ek (hr k k1 k7))⟩) (fun z hz ez nb => absurd gb nb) (fun z hz ez nb => absurd gb nb))))
    · refine iq (by decide) (op_rfK 7 (hC.kd k1) (by omega) (by omega) rfl ?_)
      have fT := rf_gT (k := 7) (v := I1 1 7 + 1) f1
      have w2 := hW.fT k1 fT
      refine wp_X13_lost w2.2.1 (c13_wrongSeam w2 (hB.fT fT) (hSK.kd k1) (hSD.fT hSK k1 fT) (by rw [fT 59 62 (by unfold gT gS; omega)]; exact hn.2) hs (fun g => absurd (by rw [ez, q_nI (by omega)]; omega) g) (fun _ w => absurd w gb) (fun z' hz' ez' _ _ I2 L2 f2 => ⟨_, rfl, ip (by decide) (op_rr 7 (hM.kd k1) (by omega) rfl (hs1 7 (by omega) (by omega) K1 _ _ k1 ?_))⟩) (fun z' hz' ez' _ g1 g2 eg1 eg2 => ?_))
      · rw [gS_k k1] at f2
        exact rf_late f1 f2
      · exfalso
        have ess : z' = z := (q_ni (by omega) (by omega)).mp (ez'.symm.trans ez)
        subst ess
        rw [DAt_f fT] at eg1 eg2
        rcases e with e | e
        · rw [e] at eg1; cases eg1
        · rw [e] at eg2; cases eg2
    · refine ip rfl ⟨q_inn (by omega) (by omega), sid s, by rw [q_cl (by omega), k1.2.2 21 s (by omega)]; exact (hSK.2.1 s hs).1, by have := (hSK.2.1 s hs).2.2.1; rw [k1.1]; omega, by rw [k1.2.1]; exact (hSK.2.1 s hs).2.2.2.1, ?_⟩
      have f1T : Fz (gT K) I I1 := f1.mono (fun _ _ w => gT_s w)
      have w1 := hW.fr k1 f1
      have hSK1 := hSK.kd k1
      have hSD1 := hSD.fT hSK k1 f1T
      have tail : ∀ r : Int32, (∀ I2 : z_I, Fz (gT K) I I2 → I2 59 75 = LenP I g1 (s1 s) (pts (s1 s)) (sa s) (sb s) → I2 59 76 = LenP I g2 (s2 s) (pts (s2 s)) (sc s) (se s) → ∀ L2, P K1 I2 L2 → RM0 n0 xX13_lostOf (d + 12) [.ref (n0 + 59), .int (nI s)] K1 I2 L2 (fun vv I5 L6 => ∃ r7 : Int32, vv = some (.int r7) ∧ (some (Value.int r7) = some (Value.int r) ∧ P K1 I5 L6))) → OpR n0 xX13_lost (d + 13) [.int (nI s), .int p1, .int p2] K1 I1 L1 (P K1) r := by
        intro r hr2
        refine wp_X13_lost w1.2.1 (c13_wrongSeam w1 (hB.fT f1T) hSK1 hSD1 (by rw [f1T 59 62 (by unfold gT gS; omega)]; exact hn.2) hs (fun g => absurd (by rw [ez, q_nI (by omega)]; omega) g) (fun _ w => absurd w gb) (fun z' hz' ez' _ e I2 L2 f2 => ?_) (fun z' hz' ez' _ g1' g2' eg1' eg2' I2 L2 f2 y75 y76 => ⟨_, rfl, iq (by decide) ?_⟩))
        · exfalso
          have ess : z' = z := (q_ni (by omega) (by omega)).mp (ez'.symm.trans ez)
          subst ess
          rw [DAt_f f1T, DAt_f f1T, eg1, eg2] at e
          rcases e with e | e <;> cases e
        · have ess : z' = z := (q_ni (by omega) (by omega)).mp (ez'.symm.trans ez)
          subst ess
          rw [DAt_f f1T] at eg1' eg2'
          rw [eg1] at eg1'
          rw [eg2] at eg2'
          have h1 := Option.some.inj eg1'
          have h2 := Option.some.inj eg2'
          rw [← h1, LenP_f f1T] at y75
          rw [← h2, LenP_f f1T] at y76
          rw [gS_k k1] at f2
          exact hr2 I2 ((f1.trans f2).mono (fun _ _ w => gT_s w)) y75 y76 L2 (hs0 K1 I2 L2 k1 (f1.trans f2))
      refine c8_firstLost (d := d + 5) hSK1 (hNt.fT hSK f1T) hs x12 x13 ⟨_, rfl, _, rfl, tail _ (fun I2 f2 y75 y76 L2 hp => c13_lostOf w1.2.1 h20 (hNt.fT hSK f2) hs y75 y76 ⟨_, rfl, ?_, hp⟩)⟩
      rw [LoS_f f2, LoS_f f1T]
  · exact wp_X12_lost hC (c12_seamRef_f (d := d) hW hSK hn.1 g1 ⟨_, rfl, hC, iq (by decide) (op_rfK 1 hC (by omega) (by omega) rfl (wp_X13_lost hM (c13_wrongSeam_f hM h20 (hn.m' re_rf) g1 ⟨_, rfl, ip (by decide) (op_rr 1 hM (by omega) rfl (hr 1 (by omega) (by omega)))⟩)))⟩)
end OEM
