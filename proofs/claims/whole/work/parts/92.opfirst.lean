def fwF (f : Nat → Bool) : Nat → Nat → Int32
  | 0, _ => -9
  | n + 1, w => if f w = true then fwF f n (w + 1) else nI w
section OFW
variable {n0 d : Nat} {K K' : z_K} {I I' : z_I} {L : z_L} {np nr nb na t ne : Nat} {pid pts rid rp rk ln cx cy bid m eid lc wc : Nat → Nat} {par : Nat → Option Nat} {X Y : Nat → List Int32} {A : Int32 → Int32 → Option (Int32 × Int32)} {P : z_K → z_I → z_L → Prop} {p0 : Int32} {wi hz hp : Nat → Nat → Nat} {e w : Nat}
theorem c12_fw18 {Q : z_R} (hW : Wd K I np nr nb na t pid pts rid rp rk ln cx cy bid m par X Y A) (hB : WdB I np A) (hE : EdK K ne eid) (hH : HdK K I ne np eid pid lc hp) (hO : WoD I ne eid lc wc wi hz) (he : e < ne) :
    ∀ n w K1 I1 L1, w + n = wc e → KD K K1 → Fz (gS K) I I1 → (∀ K' I' L', KD K K' → Fz (gS K) I I' → Q (some (.int (fwF (agB I X Y rp rk nr t pts par np wi hz hp e) n w))) K' I' L') → Z n0 xX12_firstWrong (d + 6) 0 0 18 [(0, .ref (n0 + 0)), (2, .ref (n0 + eid e)), (3, .int (nI w))] [] K1 I1 L1 Q := by
  obtain ⟨a0, a1, a2, a3, _⟩ := hE.2.1 e he
  have hw12 := (hO e he).1
  intro n
  induction n with
  | zero =>
    intro w K1 I1 L1 hw k1 f1 h
    have f1T : Fz (gT K) I I1 := f1.mono (fun _ _ z => gT_s z)
    refine wp_X12_firstWrong_18 (a2 := some (eid e)) (hW.1.kd k1) ⟨_, rfl, by rw [k1.1]; omega, by rw [k1.2.1]; exact a3, ?_⟩
    rw [((hO.fT hE f1T) e he).2.1, show w = wc e by omega]
    exact iq (fun z => by have := q_lt.mp z; omega) (h K1 I1 L1 k1 f1)
  | succ n ih =>
    intro w K1 I1 L1 hw k1 f1 h
    have f1T : Fz (gT K) I I1 := f1.mono (fun _ _ z => gT_s z)
    refine wp_X12_firstWrong_18 (a2 := some (eid e)) (hW.1.kd k1) ⟨_, rfl, by rw [k1.1]; omega, by rw [k1.2.1]; exact a3, ?_⟩
    rw [((hO.fT hE f1T) e he).2.1]
    refine ip (nI_lt (by omega) (by omega)) (c12_agrees (d := d) (hW.fr k1 f1) (hB.fT f1T) (hE.kd k1) (hH.fT hE k1 f1T) (hO.fT hE f1T) he (by omega) (fun K2 I2 L2 k2 f2 => ⟨_, rfl, hW.1.kd (k1.trans k2), ?_⟩))
    rw [gS_k k1] at f2
    rw [agB_f f1T]
    have k12 := k1.trans k2
    have f12 := f1.trans f2
    by_cases g : agB I X Y rp rk nr t pts par np wi hz hp e w = true
    · rw [bI_t g]
      refine iq (by decide) ?_
      rw [← nI_succ]
      refine ih (w + 1) K2 I2 L2 (by omega) k12 f12 (fun K' I' L' k' f' => ?_)
      have := h K' I' L' k' f'
      rw [show fwF (agB I X Y rp rk nr t pts par np wi hz hp e) (n + 1) w = fwF (agB I X Y rp rk nr t pts par np wi hz hp e) n (w + 1) by show (if _ then _ else _) = _; rw [if_pos g]] at this
      exact this
    · rw [bI_f g]
      have := h K2 I2 L2 k12 f12
      rw [show fwF (agB I X Y rp rk nr t pts par np wi hz hp e) (n + 1) w = nI w by show (if _ then _ else _) = _; rw [if_neg g]] at this
      exact ip rfl this
theorem c13_fw16 {Q : z_q} (hW : Wd K I np nr nb na t pid pts rid rp rk ln cx cy bid m par X Y A) (hB : WdB I np A) (hE : EdK K ne eid) (hH : HdK K I ne np eid pid lc hp) (hO : WoD I ne eid lc wc wi hz) (he : e < ne) :
    ∀ n w I1 L1, w + n = wc e → Fz (gS K) I I1 → (∀ I' L', Fz (gS K) I I' → Q (some (.int (fwF (agB I X Y rp rk nr t pts par np wi hz hp e) n w))) I' L') → Z n0 xX13_firstWrong (d + 12) 0 0 16 [(0, .ref (n0 + 59)), (1, .int (nI e)), (2, .int (nI w))] [] K I1 L1 (z_q0 K Q) := by
  have hw12 := (hO e he).1
  have hne := hE.1
  intro n
  induction n with
  | zero =>
    intro w I1 L1 hw f1 h
    have f1T : Fz (gT K) I I1 := f1.mono (fun _ _ z => gT_s z)
    refine wp_X13_firstWrong_16 hW.2.1 ⟨q_inn (by omega) (by omega), ?_⟩
    rw [q_cl (by omega), ((hO.fT hE f1T) e he).2.2.1, show w = wc e by omega]
    exact iq (fun z => by have := q_lt.mp z; omega) (h I1 L1 f1)
  | succ n ih =>
    intro w I1 L1 hw f1 h
    have f1T : Fz (gT K) I I1 := f1.mono (fun _ _ z => gT_s z)
    refine wp_X13_firstWrong_16 hW.2.1 ⟨q_inn (by omega) (by omega), ?_⟩
    rw [q_cl (by omega), ((hO.fT hE f1T) e he).2.2.1]
    refine ip (nI_lt (by omega) (by omega)) (c13_agrees (d := d) (hW.fr KD.rf f1) (hB.fT f1T) hne (hH.fT hE KD.rf f1T) (hO.fT hE f1T) he (by omega) (fun I2 L2 f2 => ⟨_, rfl, ?_⟩))
    rw [agB_f f1T]
    have f12 := f1.trans f2
    by_cases g : agB I X Y rp rk nr t pts par np wi hz hp e w = true
    · rw [bI_t g]
      refine iq (by decide) ?_
      rw [← nI_succ]
      refine ih (w + 1) I2 L2 (by omega) f12 (fun I' L' f' => ?_)
      have := h I' L' f'
      rw [show fwF (agB I X Y rp rk nr t pts par np wi hz hp e) (n + 1) w = fwF (agB I X Y rp rk nr t pts par np wi hz hp e) n (w + 1) by show (if _ then _ else _) = _; rw [if_pos g]] at this
      exact this
    · rw [bI_f g]
      have := h I2 L2 f12
      rw [show fwF (agB I X Y rp rk nr t pts par np wi hz hp e) (n + 1) w = nI w by show (if _ then _ else _) = _; rw [if_neg g]] at this
      exact ip rfl this
theorem op_firstWrong (hW : Wd K I np nr nb na t pid pts rid rp rk ln cx cy bid m par X Y A) (hB : WdB I np A) (hE : EdK K ne eid) (hH : HdK K I ne np eid pid lc hp) (hO : WoD I ne eid lc wc wi hz) (hn : I 0 18 = nI ne) (hn2 : I 59 114 = nI ne)
    (hs0 : ∀ K' I' L', KD K K' → Fz (gS K) I I' → P K' I' L') (hs1 : ∀ k, 1 ≤ k → k ≤ 7 → ∀ K' I' L', KD K K' → Fz (gS K) (rfI I k) I' → P K' I' L') :
    OpA n0 xX12_firstWrong xX13_firstWrong (d + 6) (d + 12) 0 0 [.int p0] K I L P := by
  have hC := hW.1
  have hM := hW.2.1
  have hne := hE.1
  by_cases g : 0 ≤ p0.toInt ∧ p0.toInt < ne
  · obtain ⟨e, rfl, _, ee⟩ := q_of g.1
    have he : e < ne := by omega
    refine wp_X12_firstWrong hC (c12_editionOf_t hC hE hn he ⟨_, rfl, oss ?_⟩)
    refine c12_fw18 hW hB hE hH hO he (wc e) 0 K I L (by omega) KD.rf Fz.rfl' (fun K1 I1 L1 k1 f1 => ⟨_, rfl, ?_⟩)
    have f1T : Fz (gT K) I I1 := f1.mono (fun _ _ z => gT_s z)
    refine wp_X13_firstWrong (hM.kd k1) (c13_isEdition (hM.kd k1) (nb := ne) (by rw [f1 59 114 (by unfold gS; omega)]; exact hn2) (by omega) ⟨_, rfl, ?_⟩)
    rw [bI_t g]
    refine iq (by decide) (c13_fw16 (hW.fr k1 f1) (hB.fT f1T) (hE.kd k1) (hH.fT hE k1 f1T) (hO.fT hE f1T) he (wc e) 0 I1 L1 (by omega) Fz.rfl' (fun I2 L2 f2 => ⟨?_, hs0 K1 I2 L2 k1 ?_⟩))
    · rw [show agB I1 X Y rp rk nr t pts par np wi hz hp e = agB I X Y rp rk nr t pts par np wi hz hp e from funext fun w => agB_f f1T]
    · rw [gS_k k1] at f2
      exact f1.trans f2
  · refine wp_X12_firstWrong hC (c12_editionOf_f hC hE hn g ⟨_, rfl, osn (op_rfK 1 hC (by omega) (by omega) rfl (wp_X13_firstWrong hM (c13_isEdition hM (nb := ne) (by rw [zI_r (by omega)]; exact hn2) (by omega) ⟨_, rfl, ?_⟩)))⟩)
    rw [bI_f g]
    exact ip rfl (op_rr 1 hM (by omega) rfl (hs1 1 (by omega) (by omega) K _ L KD.rf Fz.rfl'))
end OFW
