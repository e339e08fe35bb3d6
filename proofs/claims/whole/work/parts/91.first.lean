/-- the words of the editions, and what is drawn for them -/
def WoD (I : z_I) (ne : Nat) (eid lc wc : Nat → Nat) (wi hz : Nat → Nat → Nat) : Prop := ∀ e, e < ne → wc e ≤ 12 ∧ I (eid e) 7 = nI (wc e) ∧ I 143 e = nI (wc e) ∧ I (eid e) 0 = I 139 e ∧ (∀ w, w < wc e → wi e w < lc e ∧ I (eid e + 3) w = nI (wi e w) ∧ I 144 (12 * e + w) = nI (wi e w) ∧ I (eid e + 4) w = I 145 (12 * e + w) ∧ I (eid e + 5) w = I 146 (12 * e + w)) ∧ ∀ i, i < lc e → hz e i < 11 ∧ I (eid e + 2) i = nI (hz e i) ∧ I 142 (8 * e + i) = nI (hz e i)
noncomputable def agB (I : z_I) (X Y : Nat → List Int32) (rp rk : Nat → Nat) (nr t : Nat) (pts : Nat → Nat) (par : Nat → Option Nat) (np : Nat) (wi hz hp : Nat → Nat → Nat) (e w : Nat) : Bool :=
  if I 145 (12 * e + w) = 0 then decide (nI (pts (hp e (wi e w))) = I 146 (12 * e + w)) else
  match DAt I X Y rp rk nr t pts par np (hz e (wi e w)) (I 139 e) (hp e (wi e w)) with
  | none => false
  | some g => if I 145 (12 * e + w) = 1 then decide (LenP I g (hp e (wi e w)) (pts (hp e (wi e w))) 0 0 = I 146 (12 * e + w)) else decide (ArP I g (hp e (wi e w)) (pts (hp e (wi e w))) = (I 146 (12 * e + w)).toInt64)
section FWR
variable {n0 d : Nat} {K K' : z_K} {I I' : z_I} {L : z_L} {np nr nb na t ne : Nat} {pid pts rid rp rk ln cx cy bid m eid lc wc : Nat → Nat} {par : Nat → Option Nat} {X Y : Nat → List Int32} {A : Int32 → Int32 → Option (Int32 × Int32)} {P : z_K → z_I → z_L → Prop} {p0 : Int32} {wi hz hp : Nat → Nat → Nat} {e w : Nat}
theorem EdK.ng (h : EdK K ne eid) {e x j : Nat} (he : e < ne) (hx : x ≤ 5) : ¬ gT K (eid e + x) j := by
  obtain ⟨a0, a1, a2, a3, a4, a5, a6, a7, a8, b1, b2, b3, b4, b5⟩ := h.2.1 e he
  refine gT_hi (by omega) ?_
  have : x = 0 ∨ x = 1 ∨ x = 2 ∨ x = 3 ∨ x = 4 ∨ x = 5 := by omega
  rcases this with e | e | e | e | e | e <;> subst e
  · show (K.2.1 (eid _)).1 ≠ 8; rw [a3]; decide
  · rw [a4]; decide
  · rw [a5]; decide
  · rw [a6]; decide
  · rw [a7]; decide
  · rw [a8]; decide
theorem EdK.kd (h : EdK K ne eid) (hk : KD K K') : EdK K' ne eid := by
  refine ⟨h.1, fun s hs => ?_, h.2.2⟩
  obtain ⟨a0, a1, a2, a3, a4, a5, a6, a7, a8, b1, b2, b3, b4, b5⟩ := h.2.1 s hs
  rw [hk.1, hk.2.1, hk.2.2 51 s (by omega), hk.hi a1, hk.hi a1, hk.hi a1, hk.hi a1, hk.hi a1]
  exact ⟨a0, a1, a2, a3, a4, a5, a6, a7, a8, b1, b2, b3, b4, b5⟩
theorem HdK.fT (h : HdK K I ne np eid pid lc hp) (hE : EdK K ne eid) (hk : KD K K') (hI : Fz (gT K) I I') : HdK K' I' ne np eid pid lc hp := by
  intro e he
  have a1 := (hE.2.1 e he).2.1
  obtain ⟨b1, b2, b3, b4⟩ := h e he
  refine ⟨b1, by rw [hI (eid e) 3 (hE.ng (x := 0) he (by omega))]; exact b2, by rw [hI 140 e (by unfold gT gS; omega)]; exact b3, fun i hi => ?_⟩
  rw [hk.hi (by omega), hI 141 _ (by unfold gT gS; omega)]
  exact b4 i hi
theorem WoD.fT (h : WoD I ne eid lc wc wi hz) (hE : EdK K ne eid) (hI : Fz (gT K) I I') : WoD I' ne eid lc wc wi hz := by
  intro e he
  obtain ⟨b1, b2, b3, b4, b5, b6⟩ := h e he
  have lo : ∀ j, I' (eid e) j = I (eid e) j := fun j => hI _ _ (hE.ng (x := 0) he (by omega))
  refine ⟨b1, by rw [lo]; exact b2, by rw [hI 143 e (by unfold gT gS; omega)]; exact b3, by rw [lo, hI 139 e (by unfold gT gS; omega)]; exact b4, fun w hw => ?_, fun i hi => ?_⟩
  · rw [hI _ _ (hE.ng (x := 3) he (by omega)), hI _ _ (hE.ng (x := 4) he (by omega)), hI _ _ (hE.ng (x := 5) he (by omega)), hI 144 _ (by unfold gT gS; omega), hI 145 _ (by unfold gT gS; omega), hI 146 _ (by unfold gT gS; omega)]
    exact b5 w hw
  · rw [hI _ _ (hE.ng (x := 2) he (by omega)), hI 142 _ (by unfold gT gS; omega)]
    exact b6 i hi
theorem agB_f (hI : Fz (gT K) I I') : agB I' X Y rp rk nr t pts par np wi hz hp e w = agB I X Y rp rk nr t pts par np wi hz hp e w := by
  unfold agB
  rw [hI 145 _ (by unfold gT gS; omega), hI 146 _ (by unfold gT gS; omega), hI 139 _ (by unfold gT gS; omega), DAt_f hI]
  split
  · rfl
  · split
    · rfl
    · rw [LenP_f hI, ArP_f hI]
theorem bI_d {p : Prop} [Decidable p] {q : Bool} (h : q = decide p) : (if p then (1 : Int32) else 0) = bI (q = true) := by
  subst h
  by_cases c : p
  · rw [if_pos c, bI_t (decide_eq_true c)]
  · rw [if_neg c, bI_f (fun z => c (of_decide_eq_true z))]
theorem c12_agrees {Q : z_R} (hW : Wd K I np nr nb na t pid pts rid rp rk ln cx cy bid m par X Y A) (hB : WdB I np A) (hE : EdK K ne eid) (hH : HdK K I ne np eid pid lc hp) (hO : WoD I ne eid lc wc wi hz) (he : e < ne) (hw : w < wc e)
    (h : ∀ K' I' L', KD K K' → Fz (gS K) I I' → Q (some (.int (bI (agB I X Y rp rk nr t pts par np wi hz hp e w = true)))) K' I' L') :
    RM n0 xX12_agrees (d + 5) 0 0 [.ref (n0 + 0), .ref (n0 + eid e), .int (nI w)] K I L Q := by
  have hC := hW.1
  have hP := hW.2.2.2.1
  have hN := hW.2.2.2.2.1
  obtain ⟨a0, a1, a2, a3, a4, a5, a6, a7, a8, b1, b2, b3, b4, b5⟩ := hE.2.1 e he
  obtain ⟨w1, w2, w3, w4, w5, w6⟩ := hO e he
  obtain ⟨u1, u2, u3, u4, u5⟩ := w5 w hw
  obtain ⟨v1, v2, v3, v4⟩ := hH e he
  obtain ⟨x1, x2, x3⟩ := v4 _ u1
  obtain ⟨z1, z2, z3⟩ := w6 _ u1
  have hlt := hP.lt x1
  refine wp_X12_agrees hC ⟨by omega, a3, _, b3, 12, by omega, a6, q_inn (by omega) (by omega), ?_⟩
  rw [q_cl (by omega), u2, q_cl (by omega)]
  refine ⟨_, b1, 8, by omega, a4, q_inn (by omega) (by omega), _, x2, _, b5, 12, by omega, a8, q_inn (by omega) (by omega), _, b4, 12, by omega, a7, q_inn (by omega) (by omega), ?_⟩
  rw [u4, u5]
  by_cases c0 : I 145 (12 * e + w) = 0
  · refine ip c0 ⟨by omega, hP.cls x1, ?_⟩
    rw [(hN.c _ x1).1, bI_d (q := agB I X Y rp rk nr t pts par np wi hz hp e w) (by unfold agB; rw [if_pos c0])]
    exact h K I L KD.rf Fz.rfl'
  · refine iq c0 ⟨_, b2, 8, by omega, a5, q_inn (by omega) (by omega), ?_⟩
    rw [z2, w4]
    refine c12_sndAt (d := d) hW x1 z1 (fun K1 I1 L1 k1 f1 e1 d1 n1 => ⟨_, rfl, hC.kd k1, ?_⟩)
    have f1T : Fz (gT K) I I1 := f1.mono (fun _ _ z => gT_s z)
    cases eD : DAt I X Y rp rk nr t pts par np (hz e (wi e w)) (I 139 e) (hp e (wi e w)) with
    | none =>
      rw [bI_f (by simp)]
      have := h K1 I1 L1 k1 f1
      rw [bI_f (by unfold agB; rw [if_neg c0, eD]; simp)] at this
      exact ip rfl this
    | some g =>
      rw [bI_t (by simp)]
      have hpt := (hN.2.2 _ x1).2.2
      have hbg := DAt_b hW hB x1 z1 eD
      refine iq (by decide) ⟨by rw [k1.1]; omega, by rw [k1.2.1]; exact a3, _, by rw [k1.hi a1]; exact b4, 12, by rw [k1.1]; omega, by rw [k1.2.1]; exact a7, q_inn (by omega) (by omega), ?_⟩
      rw [f1T _ _ (hE.ng (x := 4) he (by omega)), u4]
      by_cases c1 : I 145 (12 * e + w) = 1
      · refine ip c1 (c2_lengthOf (d := d) (g := g) (a := 0) (b := 0) (hW.fr k1 f1) (hB.fT f1T) x1 (fun k hk => d1.pl x1 n1 eD hk) hbg (by omega) (by omega) (fun I3 f3 => ⟨_, rfl, ?_⟩))
        rw [LenP_f f1T, bI_d (q := agB I X Y rp rk nr t pts par np wi hz hp e w) (by unfold agB; rw [if_neg c0, eD]; show (if _ then _ else _) = _; rw [if_pos c1])]
        exact h K1 I3 _ k1 (f1.trans (f3.mono (fun a j z => trS_g z)))
      · refine iq c1 (c2_areaOf (d := d) (g := g) (hW.fr k1 f1) (hB.fT f1T) x1 (fun k hk => d1.pl x1 n1 eD hk) hbg (fun I3 f3 => ⟨_, rfl, ?_⟩))
        have := h K1 I3 L1 k1 (f1.trans (f3.mono (fun a j z => trS_g z)))
        rw [← bI_d (p := ArP I g (hp e (wi e w)) (pts (hp e (wi e w))) = (I 146 (12 * e + w)).toInt64) (by unfold agB; rw [if_neg c0, eD]; show (if _ then _ else _) = _; rw [if_neg c1])] at this
        rw [ArP_f f1T]
        split
        · rename_i c; rw [if_pos c] at this; exact this
        · rename_i c; rw [if_neg c] at this; exact this
theorem c13_agrees {Q : z_q} (hW : Wd K I np nr nb na t pid pts rid rp rk ln cx cy bid m par X Y A) (hB : WdB I np A) (hne : ne ≤ 12) (hH : HdK K I ne np eid pid lc hp) (hO : WoD I ne eid lc wc wi hz) (he : e < ne) (hw : w < wc e)
    (h : ∀ I' L', Fz (gS K) I I' → Q (some (.int (bI (agB I X Y rp rk nr t pts par np wi hz hp e w = true)))) I' L') :
    RM0 n0 xX13_agrees (d + 11) [.ref (n0 + 59), .int (nI e), .int (nI w)] K I L Q := by
  have hM := hW.2.1
  have hP := hW.2.2.2.1
  have hN := hW.2.2.2.2.1
  have hnp := hP.n
  obtain ⟨w1, w2, w3, w4, w5, w6⟩ := hO e he
  obtain ⟨u1, u2, u3, u4, u5⟩ := w5 w hw
  obtain ⟨v1, v2, v3, v4⟩ := hH e he
  obtain ⟨x1, x2, x3⟩ := v4 _ u1
  obtain ⟨z1, z2, z3⟩ := w6 _ u1
  refine wp_X13_agrees hM ?_
  rw [q_12j, q_cl (by omega), u3, show (8 : Int32) = nI 8 from rfl, q_nmul, q_nadd, q_cl (by omega), x3, q_cl (by omega), z3, q_cl (by omega)]
  refine ⟨q_inn (by omega) (by omega), q_inn (by omega) (by omega), ?_⟩
  by_cases c0 : I 145 (12 * e + w) = 0
  · refine ip c0 ⟨q_inn (by omega) (by omega), ?_⟩
    rw [(hN.m _ x1).1, bI_d (q := agB I X Y rp rk nr t pts par np wi hz hp e w) (by unfold agB; rw [if_pos c0])]
    exact h I L Fz.rfl'
  · refine iq c0 ⟨q_inn (by omega) (by omega), c13_drawA hW x1 (fun I1 L1 f1 hx => ⟨_, rfl, ?_⟩)⟩
    have f1T : Fz (gT K) I I1 := f1.mono (fun _ _ z => gT_s z)
    change ∀ g, DAt I X Y rp rk nr t pts par np (hz e (wi e w)) (I 139 e) (hp e (wi e w)) = some g → _ at hx
    show (if bI (DAt I X Y rp rk nr t pts par np (hz e (wi e w)) (I 139 e) (hp e (wi e w)) ≠ none) = 0 then _ else _)
    cases eD : DAt I X Y rp rk nr t pts par np (hz e (wi e w)) (I 139 e) (hp e (wi e w)) with
    | none =>
      rw [bI_f (by simp)]
      have := h I1 L1 f1
      rw [bI_f (by unfold agB; rw [if_neg c0, eD]; simp)] at this
      exact ip rfl this
    | some g =>
      rw [bI_t (by simp)]
      have hpt := (hN.2.2 _ x1).2.2
      have hbg := DAt_b hW hB x1 z1 eD
      refine iq (by decide) ?_
      rw [f1 145 _ (by unfold gS; omega)]
      by_cases c1 : I 145 (12 * e + w) = 1
      · refine ip c1 (c13_lengthOf (d := d + 6) (g := g) (a := 0) (b := 0) (hW.fr KD.rf f1) (hB.fT f1T) x1 (hx g eD) hbg (by omega) (by omega) (fun I3 f3 => ⟨_, rfl, ?_⟩))
        have f13 := f1.trans (f3.mono (fun a j z => fwS_g z))
        have := h I3 L1 f13
        rw [← bI_d (p := LenP I g (hp e (wi e w)) (pts (hp e (wi e w))) 0 0 = I 146 (12 * e + w)) (by unfold agB; rw [if_neg c0, eD]; show (if _ then _ else _) = _; rw [if_pos c1])] at this
        rw [LenP_f f1T, f13 146 _ (by unfold gS; omega)]
        by_cases c : LenP I g (hp e (wi e w)) (pts (hp e (wi e w))) 0 0 = I 146 (12 * e + w)
        · rw [if_pos c] at this
          exact ip (by rw [c]) this
        · rw [if_neg c] at this
          exact iq (fun z => c (by have := congrArg Int64.toInt z; rw [Int32.toInt_toInt64, Int32.toInt_toInt64] at this; exact q_eq.mpr this)) this
      · refine iq c1 (c13_areaOf (d := d + 6) (g := g) (hW.fr KD.rf f1) (hB.fT f1T) x1 (hx g eD) hbg (fun I3 f3 => ⟨_, rfl, ?_⟩))
        have f13 := f1.trans (f3.mono (fun a j z => fwS_g z))
        have := h I3 L1 f13
        rw [← bI_d (p := ArP I g (hp e (wi e w)) (pts (hp e (wi e w))) = (I 146 (12 * e + w)).toInt64) (by unfold agB; rw [if_neg c0, eD]; show (if _ then _ else _) = _; rw [if_neg c1])] at this
        rw [ArP_f f1T, f13 146 _ (by unfold gS; omega)]
        split
        · rename_i c; rw [if_pos c] at this; exact this
        · rename_i c; rw [if_neg c] at this; exact this
end FWR
