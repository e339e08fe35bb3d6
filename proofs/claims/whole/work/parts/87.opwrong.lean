section OWR
variable {n0 d : Nat} {K K1 : z_K} {I I' : z_I} {L : z_L} {np nr nb na t ns : Nat} {pid pts rid rp rk ln cx cy bid m sid s1 s2 sa sb sc se nc : Nat → Nat} {par : Nat → Option Nat} {X Y : Nat → List Int32} {A : Int32 → Int32 → Option (Int32 × Int32)} {P : z_K → z_I → z_L → Prop} {dy p0 : Int32} {z s : Nat}
theorem c12_wr21 {Q : z_R} (hW : Wd K I np nr nb na t pid pts rid rp rk ln cx cy bid m par X Y A) (hB : WdB I np A) (hSK : SmK K ns sid) (hSD : SmD K I ns np sid pid pts s1 s2 sa sb sc se) (hNt : NtD I ns sid nc) (hn : I 0 13 = nI ns) :
    ∀ w z K1 I1 L1, z + w = 11 → KD K K1 → Fz (gS K) I I1 → (∀ K' I' L', KD K K' → Fz (gS K) I I' → Q (some (.int (ouF (wrB I X Y rp rk nr t pts par np s1 s2 sa sb sc se nc dy) ns w z))) K' I' L') → Z n0 xX12_wrong (d + 7) 0 0 21 [(0, .ref (n0 + 0)), (1, .int dy), (3, .int (nI z))] [] K1 I1 L1 Q := by
  intro w
  induction w with
  | zero =>
    intro z K1 I1 L1 hz k1 f1 h
    have : z = 11 := by omega
    subst this
    exact wp_X12_wrong_21 (hW.1.kd k1) (iq (by decide) (h K1 I1 L1 k1 f1))
  | succ w ih =>
    intro z K1 I1 L1 hz k1 f1 h
    have f1T : Fz (gT K) I I1 := f1.mono (fun _ _ w => gT_s w)
    have w1 := hW.fr k1 f1
    have hz11 : z < 11 := by omega
    have ef : wrB I1 X Y rp rk nr t pts par np s1 s2 sa sb sc se nc dy z = wrB I X Y rp rk nr t pts par np s1 s2 sa sb sc se nc dy z := funext fun s => wrB_f f1T
    refine wp_X12_wrong_21 w1.1 (ip (nI_lt (b := 11) (by omega) (by omega)) (c12_drawAt (d := d + 4) w1 hz11 (fun K2 I2 L2 k2 f2 e2 z2 => ⟨rfl, w1.1.kd k2, ?_⟩)))
    have st : ouF (wrB I X Y rp rk nr t pts par np s1 s2 sa sb sc se nc dy) ns (w + 1) z = (inF (wrB I X Y rp rk nr t pts par np s1 s2 sa sb sc se nc dy z) z ns 0).getD (ouF (wrB I X Y rp rk nr t pts par np s1 s2 sa sb sc se nc dy) ns w (z + 1)) := rfl
    refine c12_wr36 (z := z) w1 (hB.fT f1T) (hSK.kd k1) (hSD.fT hSK k1 f1T) (hNt.fT hSK f1T) (by rw [f1 0 13 (by unfold gS; omega)]; exact hn) hz11 k2 f2 e2 ns 0 K2 I2 L2 (by omega) KL.rf Fz.rfl' (fun q hq => Or.inl (z2 q (by have := hW.2.2.2.1.n; omega))) (fun r er K3 I3 L3 k3 f3 => ?_) (fun er K3 I3 L3 k3 f3 => ?_)
    · rw [ef] at er
      rw [gS_k k1] at f3
      have := h K3 I3 L3 (k1.trans k3) (f1.trans f3)
      rw [st, er] at this
      exact this
    · rw [ef] at er
      rw [gS_k k1] at f3
      refine ih (z + 1) K3 I3 L3 (by omega) (k1.trans k3) (f1.trans f3) (fun K' I' L' k' f' => ?_)
      have := h K' I' L' k' f'
      rw [st, er] at this
      exact this
theorem c13_wr34 {Q : z_q} (hW : Wd K I np nr nb na t pid pts rid rp rk ln cx cy bid m par X Y A) (hB : WdB I np A) (hSK : SmK K ns sid) (hSD : SmD K I ns np sid pid pts s1 s2 sa sb sc se) (hNt : NtD I ns sid nc) (hn : I 59 62 = nI ns) (hz : z < 11) (gb : ¬ bnd dy 0 1000 < 0) :
    ∀ w j I1 L1, j + w = ns → Fz (gS K) I I1 →
      (∀ r, inF (wrB I X Y rp rk nr t pts par np s1 s2 sa sb sc se nc dy z) z w j = some r → ∀ I' L', Fz (gS K) I I' → Q (some (.int r)) I' L') →
      (inF (wrB I X Y rp rk nr t pts par np s1 s2 sa sb sc se nc dy z) z w j = none → ∀ I' L', Fz (gS K) I I' → Z n0 xX13_wrong (d + 13) 0 0 26 [(0, .ref (n0 + 59)), (1, .int dy), (2, .int (nI (z + 1)))] [] K I' L' (z_q0 K Q)) →
      Z n0 xX13_wrong (d + 13) 0 0 34 [(0, .ref (n0 + 59)), (1, .int dy), (2, .int (nI z)), (3, .int (nI j))] [] K I1 L1 (z_q0 K Q) := by
  have hM := hW.2.1
  have h20 := hSK.1
  intro w
  induction w with
  | zero =>
    intro j I1 L1 hj f1 hr hn2
    refine wp_X13_wrong_34 hM ?_
    rw [f1 59 62 (by unfold gS; omega), hn, ← nI_succ, ← nI_succ]
    exact iq (fun z => by have := q_lt.mp z; rw [q_nI (by omega), q_nI (by omega)] at this; omega) (hn2 rfl I1 L1 f1)
  | succ w ih =>
    intro j I1 L1 hj f1 hr hn2
    have hs : j < ns := by omega
    have f1T : Fz (gT K) I I1 := f1.mono (fun _ _ w => gT_s w)
    have w1 := hW.fr KD.rf f1
    have szok : 0 ≤ (nI z).toInt ∧ (nI z).toInt < 11 := by rw [q_nI (by omega)]; omega
    refine wp_X13_wrong_34 hM ?_
    rw [f1 59 62 (by unfold gS; omega), hn, ← nI_succ]
    have stepT : wrB I X Y rp rk nr t pts par np s1 s2 sa sb sc se nc dy z j = true → ∀ I2 L2, Fz (gS K) I I2 → Q (some (.int (32 * nI z + nI j))) I2 L2 := fun hb I2 L2 f2 => hr _ (by show (if _ = true then _ else _) = _; rw [if_pos hb]) I2 L2 f2
    have stepF : ¬ wrB I X Y rp rk nr t pts par np s1 s2 sa sb sc se nc dy z j = true → ∀ I2 L2, Fz (gS K) I I2 → Z n0 xX13_wrong (d + 13) 0 0 34 [(0, .ref (n0 + 59)), (1, .int dy), (2, .int (nI z)), (3, .int (nI (j + 1)))] [] K I2 L2 (z_q0 K Q) := fun hb I2 L2 f2 => ih (j + 1) I2 L2 (by omega) f2 (fun r er => hr r (by show (if _ = true then _ else _) = _; rw [if_neg hb]; exact er)) (fun er => hn2 (by show (if _ = true then _ else _) = _; rw [if_neg hb]; exact er))
    refine ip (nI_lt (by omega) (by omega)) (c13_wrongSeam (d := d) w1 (hB.fT f1T) hSK (hSD.fT hSK KD.rf f1T) (by rw [f1 59 62 (by unfold gS; omega)]; exact hn) hs (fun g => absurd szok g) (fun _ w => absurd w gb) (fun z' hz' ez' _ e I2 L2 f2 => ⟨_, rfl, ip (by decide) ?_⟩) (fun z' hz' ez' _ g1 g2 eg1 eg2 I2 L2 f2 y75 y76 => ⟨_, rfl, iq (by decide) ?_⟩))
    · have ess : z' = z := ((q_ni (by omega) (by omega)).mp ez').symm
      subst ess
      rw [DAt_f f1T, DAt_f f1T] at e
      exact stepT (wrB_n e) I2 L2 (f1.trans f2)
    · have ess : z' = z := ((q_ni (by omega) (by omega)).mp ez').symm
      subst ess
      rw [DAt_f f1T] at eg1 eg2
      rw [LenP_f f1T] at y75 y76
      have f2g : Fz (gS K) I I2 := f1.trans f2
      have f2T : Fz (gT K) I I2 := f2g.mono (fun _ _ w => gT_s w)
      have hw := wrB_s (sa := sa) (sb := sb) (sc := sc) (se := se) (nc := nc) (s := j) eg1 eg2
      refine c13_doesMeet (d := d + 11) hM h20 hs y75 y76 ⟨_, rfl, ?_⟩
      rw [MtS_f f2T]
      by_cases gm : MtS I j (LenP I g1 (s1 j) (pts (s1 j)) (sa j) (sb j)) (LenP I g2 (s2 j) (pts (s2 j)) (sc j) (se j)) = 0
      · exact ip gm (stepT (by rw [hw]; exact decide_eq_true (Or.inl gm)) I2 L2 f2g)
      · refine iq gm (c13_lostOf hM h20 (hNt.fT hSK f2T) hs y75 y76 ⟨_, rfl, ?_⟩)
        rw [LoS_f f2T]
        by_cases gl : LoS I nc j (LenP I g1 (s1 j) (pts (s1 j)) (sa j) (sb j)) (LenP I g2 (s2 j) (pts (s2 j)) (sc j) (se j)) = -9
        · exact ip gl (stepF (by rw [hw]; intro q; have := of_decide_eq_true q; exact this.elim gm (fun w => w gl)) I2 L2 f2g)
        · exact iq gl (stepT (by rw [hw]; exact decide_eq_true (Or.inr gl)) I2 L2 f2g)
theorem c13_wr26 {Q : z_q} (hW : Wd K I np nr nb na t pid pts rid rp rk ln cx cy bid m par X Y A) (hB : WdB I np A) (hSK : SmK K ns sid) (hSD : SmD K I ns np sid pid pts s1 s2 sa sb sc se) (hNt : NtD I ns sid nc) (hn : I 59 62 = nI ns) (gb : ¬ bnd dy 0 1000 < 0) :
    ∀ w z I1 L1, z + w = 11 → Fz (gS K) I I1 → (∀ I' L', Fz (gS K) I I' → Q (some (.int (ouF (wrB I X Y rp rk nr t pts par np s1 s2 sa sb sc se nc dy) ns w z))) I' L') → Z n0 xX13_wrong (d + 13) 0 0 26 [(0, .ref (n0 + 59)), (1, .int dy), (2, .int (nI z))] [] K I1 L1 (z_q0 K Q) := by
  intro w
  induction w with
  | zero =>
    intro z I1 L1 hz f1 h
    have : z = 11 := by omega
    subst this
    exact wp_X13_wrong_26 hW.2.1 (iq (by decide) (h I1 L1 f1))
  | succ w ih =>
    intro z I1 L1 hz f1 h
    have st : ouF (wrB I X Y rp rk nr t pts par np s1 s2 sa sb sc se nc dy) ns (w + 1) z = (inF (wrB I X Y rp rk nr t pts par np s1 s2 sa sb sc se nc dy z) z ns 0).getD (ouF (wrB I X Y rp rk nr t pts par np s1 s2 sa sb sc se nc dy) ns w (z + 1)) := rfl
    refine wp_X13_wrong_26 hW.2.1 (ip (nI_lt (b := 11) (by omega) (by omega)) (c13_wr34 (z := z) hW hB hSK hSD hNt hn (by omega) gb ns 0 I1 L1 (by omega) f1 (fun r er I3 L3 f3 => ?_) (fun er I3 L3 f3 => ?_)))
    · have := h I3 L3 f3
      rw [st, er] at this
      exact this
    · refine ih (z + 1) I3 L3 (by omega) f3 (fun I' L' f' => ?_)
      have := h I' L' f'
      rw [st, er] at this
      exact this
theorem ouF_c {f f' : Nat → Nat → Bool} (h : f' = f) (ns w z : Nat) : ouF f' ns w z = ouF f ns w z := by rw [h]
theorem op_wrong (hW : Wd K I np nr nb na t pid pts rid rp rk ln cx cy bid m par X Y A) (hB : WdB I np A) (hSK : SmK K ns sid) (hSD : SmD K I ns np sid pid pts s1 s2 sa sb sc se) (hNt : NtD I ns sid nc) (hn : SmN I ns) (hs0 : ∀ K' I' L', KD K K' → Fz (gS K) I I' → P K' I' L') (hs1 : ∀ k, 1 ≤ k → k ≤ 7 → ∀ K' I' L', KD K K' → Fz (gS K) (rfI I k) I' → P K' I' L') :
    OpA n0 xX12_wrong xX13_wrong (d + 7) (d + 13) 0 0 [.int p0] K I L P := by
  have hC := hW.1
  have hM := hW.2.1
  refine wp_X12_wrong hC (c12_outside hC ⟨_, rfl, ?_⟩)
  by_cases gb : bnd p0 0 1000 < 0
  · obtain ⟨k, k1, k7, ek⟩ := bnd_k gb
    exact iq (fun z => by rw [z] at gb; exact absurd gb (by decide)) (op_rfK k hC k1 k7 ek (wp_X13_wrong hM (c13_bounds hM ⟨_, rfl, ip gb (c13_bounds hM ⟨_, rfl, op_rr k hM k7 ek (hs1 k k1 k7 K _ L KD.rf Fz.rfl')⟩)⟩)))
  · rw [bnd_0 gb]
    refine ip rfl (c12_wr21 (d := d) (dy := p0) hW hB hSK hSD hNt hn.1 11 0 K I L (by omega) KD.rf Fz.rfl' (fun K1 I1 L1 k1 f1 => ⟨_, rfl, wp_X13_wrong (hM.kd k1) (c13_bounds (hM.kd k1) ⟨_, rfl, iq gb ?_⟩)⟩))
    have f1T : Fz (gT K) I I1 := f1.mono (fun _ _ w => gT_s w)
    have ef : wrB I1 X Y rp rk nr t pts par np s1 s2 sa sb sc se nc p0 = wrB I X Y rp rk nr t pts par np s1 s2 sa sb sc se nc p0 := funext fun z => funext fun s => wrB_f f1T
    refine c13_wr26 (d := d) (hW.fr k1 f1) (hB.fT f1T) (hSK.kd k1) (hSD.fT hSK k1 f1T) (hNt.fT hSK f1T) (by rw [f1 59 62 (by unfold gS; omega)]; exact hn.2) gb 11 0 I1 L1 (by omega) Fz.rfl' (fun I2 L2 f2 => ⟨?_, hs0 K1 I2 L2 k1 ?_⟩)
    · rw [ouF_c ef]
    · rw [gS_k k1] at f2
      exact f1.trans f2
end OWR
