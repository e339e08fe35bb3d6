/-! what lies on the marker: both make its shapes -/
/-- the marker's rows -/
def MkD (K : z_K) (I : z_I) (N np : Nat) (pid mp ms : Nat → Nat) : Prop := N ≤ 4 ∧ I 25 4 = nI N ∧ I 59 89 = nI N ∧ ∀ i, i < N → mp i < np ∧ ms i < 11 ∧ K.2.2 27 i = some (pid (mp i)) ∧ I 28 i = nI (ms i) ∧ I 117 i = nI (mp i) ∧ I 118 i = nI (ms i)
/-- the cells of one on the marker; none: it can't be laid -/
noncomputable def stO (I : z_I) (X Y : Nat → List Int32) (rp rk : Nat → Nat) (nr t : Nat) (pts : Nat → Nat) (par : Nat → Option Nat) (np : Nat) (mp ms : Nat → Nat) (i : Nat) : Option (Nat → Nat → Bool) := match DAt I X Y rp rk nr t pts par np (ms i) (I 59 0) (mp i) with
  | none => none
  | some g => if ceW I g (mp i) (pts (mp i)) (I 113 1) = true then none else if (fcA (ceB I g (mp i) (pts (mp i)) (I 113 1)) 24).1 = 0 then none else some (ceB I g (mp i) (pts (mp i)) (I 113 1))
section MKR
variable {n0 d N : Nat} {K K' : z_K} {I I' : z_I} {L : z_L} {np nr nb na t : Nat} {pid pts rid rp rk ln cx cy bid m mp ms : Nat → Nat} {par : Nat → Option Nat} {X Y : Nat → List Int32} {A : Int32 → Int32 → Option (Int32 × Int32)} {i : Nat}
theorem MkD.fT (h : MkD K I N np pid mp ms) (hk : KD K K') (hI : Fz (gT K) I I') : MkD K' I' N np pid mp ms := by
  obtain ⟨h1, h2, h3, h4⟩ := h
  refine ⟨h1, by rw [hI 25 4 (by unfold gT gS; omega)]; exact h2, by rw [hI 59 89 (by unfold gT gS; omega)]; exact h3, fun i hi => ?_⟩
  obtain ⟨a1, a2, a3, a4, a5, a6⟩ := h4 i hi
  exact ⟨a1, a2, by rw [hk.2.2 27 i (by omega)]; exact a3, by rw [hI 28 i (by unfold gT gS; omega)]; exact a4, by rw [hI 117 i (by unfold gT gS; omega)]; exact a5, by rw [hI 118 i (by unfold gT gS; omega)]; exact a6⟩
theorem stO_f (hI : Fz (gT K) I I') : stO I' X Y rp rk nr t pts par np mp ms i = stO I X Y rp rk nr t pts par np mp ms i := by
  unfold stO
  rw [DAt_f hI, hI 59 0 (by unfold gT gS; omega), hI 113 1 (by unfold gT gS; omega)]
  cases DAt I X Y rp rk nr t pts par np (ms i) (I 59 0) (mp i) with
  | none => rfl
  | some g => simp only; rw [(ceB_f hI).1, (ceB_f hI).2]
theorem ShL_i (hC : CLay K) (hi : i < 4) : ShL K (36 + 3 * i) ∧ K.2.2 29 i = some (36 + 3 * i) := by
  have hx : i = 0 ∨ i = 1 ∨ i = 2 ∨ i = 3 := by omega
  rcases hx with e | e | e | e <;> subst e
  · exact ⟨⟨by omega, by omega, (ca_38 hC).2.1, (co_36 hC).2, (ca_37 hC).1, (ca_38 hC).1, (ca_37 hC).2.2, (ca_38 hC).2.2⟩, cp_36 hC⟩
  · exact ⟨⟨by omega, by omega, (ca_41 hC).2.1, (co_39 hC).2, (ca_40 hC).1, (ca_41 hC).1, (ca_40 hC).2.2, (ca_41 hC).2.2⟩, cp_39 hC⟩
  · exact ⟨⟨by omega, by omega, (ca_44 hC).2.1, (co_42 hC).2, (ca_43 hC).1, (ca_44 hC).1, (ca_43 hC).2.2, (ca_44 hC).2.2⟩, cp_42 hC⟩
  · exact ⟨⟨by omega, by omega, (ca_47 hC).2.1, (co_45 hC).2, (ca_46 hC).1, (ca_47 hC).1, (ca_46 hC).2.2, (ca_47 hC).2.2⟩, cp_45 hC⟩
theorem ShC.fr {o : Nat} {f : Nat → Nat → Bool} (h : ShC I o f) (e0 : ∀ j, I' o j = I o j) (e1 : ∀ j, I' (o + 1) j = I (o + 1) j) (e2 : ∀ j, I' (o + 2) j = I (o + 2) j) : ShC I' o f := by
  obtain ⟨h1, h2⟩ := h
  refine ⟨by rw [e0]; exact h1, fun z => ?_⟩
  obtain ⟨a1, a2, a3, a4⟩ := h2 z
  exact ⟨by rw [e0]; exact a1, by rw [e0]; exact a2, fun k hk q hq => by rw [e1]; exact a3 k hk q hq, fun k hk q hq => by rw [e2]; exact a4 k hk q hq⟩
theorem c12_shapesStand {Q : z_R} (hW : Wd K I np nr nb na t pid pts rid rp rk ln cx cy bid m par X Y A) (hB : WdB I np A) (hMk : MkD K I N np pid mp ms) (hst : I 26 1 = I 113 1 ∧ 1 ≤ (I 113 1).toInt ∧ (I 113 1).toInt ≤ 500)
    (h0 : ∀ K' I' L', KD K K' → Fz (gX K) I I' → (∃ i, i < N ∧ stO I X Y rp rk nr t pts par np mp ms i = none) → Q (some (.int 0)) K' I' L')
    (h1 : ∀ K' I' L', KD K K' → Fz (gX K) I I' → (∀ i, i < N → ∃ f, stO I X Y rp rk nr t pts par np mp ms i = some f ∧ 0 < (fcA f 24).1 ∧ ShC I' (36 + 3 * i) f) → Q (some (.int 1)) K' I' L') :
    RM n0 xX12_shapesStand (d + 5) 0 0 [.ref (n0 + 0)] K I L Q := by
  have hN4 := hMk.1
  have lp : ∀ w i K1 I1 L1, i + w = N → KD K K1 → Fz (gX K) I I1 → (∀ j, j < i → ∃ f, stO I X Y rp rk nr t pts par np mp ms j = some f ∧ 0 < (fcA f 24).1 ∧ ShC I1 (36 + 3 * j) f) → Z n0 xX12_shapesStand (d + 5) 0 0 2 [(0, .ref (n0 + 0)), (1, .int (nI i))] [] K1 I1 L1 Q := by
    intro w
    induction w with
    | zero =>
      intro i K1 I1 L1 hi k1 f1 v1
      have f1T : Fz (gT K) I I1 := f1.mono (fun _ _ z => gX_T z)
      have w1 := hW.fT k1 f1T
      refine wp_X12_shapesStand_2 w1.1 ?_
      rw [(hMk.fT k1 f1T).2.1]
      exact iq (fun z => by have := (q_nlt (by omega) (by omega)).mp z; omega) (h1 K1 I1 L1 k1 f1 (fun j hj => v1 j (by omega)))
    | succ w ih =>
      intro i K1 I1 L1 hi k1 f1 v1
      have hiN : i < N := by omega
      have f1T : Fz (gT K) I I1 := f1.mono (fun _ _ z => gX_T z)
      have w1 := hW.fT k1 f1T
      have mk1 := hMk.fT k1 f1T
      obtain ⟨a1, a2, a3, a4, a5, a6⟩ := mk1.2.2.2 i hiN
      refine wp_X12_shapesStand_2 w1.1 ?_
      rw [mk1.2.1]
      refine ip (nI_lt (by omega) (by omega)) ⟨q_inn (by omega) (by omega), pid (mp i), by rw [q_cl (by omega)]; exact a3, ?_⟩
      rw [q_cl (by omega), a4]
      refine c12_sndAt w1 a1 a2 (fun K2 I2 L2 k2 f2 e2 d2 n2 => ⟨_, rfl, w1.1.kd k2, ?_⟩)
      have k12 := k1.trans k2
      rw [gS_k k1] at f2
      have f12 : Fz (gX K) I I2 := f1.trans (f2.mono (fun _ _ z => gX_s z))
      have f12T : Fz (gT K) I I2 := f12.mono (fun _ _ z => gX_T z)
      have w2 := hW.fT k12 f12T
      have e00 : I1 0 0 = I 59 0 := by rw [f1T 0 0 (by unfold gT gS; omega)]; exact hW.2.2.2.2.2.2.2.2.2.2.2.2.1
      have eF : DAt I1 X Y rp rk nr t pts par np (ms i) (I 59 0) = DAt I X Y rp rk nr t pts par np (ms i) (I 59 0) := funext fun p => DAt_f f1T
      rw [e00, eF] at d2 ⊢
      cases eD : DAt I X Y rp rk nr t pts par np (ms i) (I 59 0) (mp i) with
      | none =>
        rw [bI_f (by simp)]
        refine ip rfl (h0 K2 I2 L2 k12 f12 ⟨i, hiN, ?_⟩)
        unfold stO
        rw [eD]
      | some g =>
        rw [bI_t (by simp)]
        have hbg := DAt_b hW hB (hMk.2.2.2 i hiN).1 a2 eD
        obtain ⟨sh, s29⟩ := ShL_i (w1.1.kd k2) (show i < 4 by omega)
        have e26 : I2 26 1 = I 113 1 := by rw [f12T 26 1 (by unfold gT gS; omega)]; exact hst.1
        refine iq (by decide) ⟨36 + 3 * i, s29, by have := sh.2.2.1; omega, sh.2.2.2.1, ?_⟩
        rw [e26]
        have sO : stO I X Y rp rk nr t pts par np mp ms i = if ceW I g (mp i) (pts (mp i)) (I 113 1) = true then none else if (fcA (ceB I g (mp i) (pts (mp i)) (I 113 1)) 24).1 = 0 then none else some (ceB I g (mp i) (pts (mp i)) (I 113 1)) := by unfold stO; rw [eD]
        refine c10_cover (d := d) (g := g) w2 (hB.fT f12T) a1 (fun k hk => d2.pl a1 n2 eD hk) hbg sh hst.2.1 (by have := hst.2.2; omega) (fun I3 f3 wb => ⟨_, rfl, ?_⟩) (fun I3 f3 wb sc => ⟨_, rfl, ?_⟩)
        · rw [(ceB_f f12T).2] at wb
          exact ip rfl (h0 K2 I3 L2 k12 (f12.trans (f3.mono (fun _ _ z => cvS_X (by omega) (by omega) z))) ⟨i, hiN, by rw [sO, if_pos wb]⟩)
        · rw [(ceB_f f12T).2] at wb
          rw [(ceB_f f12T).1] at sc ⊢
          have f13 : Fz (gX K) I I3 := f12.trans (f3.mono (fun _ _ z => cvS_X (by omega) (by omega) z))
          have cb := (fcA_b (f := ceB I g (mp i) (pts (mp i)) (I 113 1)) 24 (Nat.le_refl _)).1
          by_cases gz : (fcA (ceB I g (mp i) (pts (mp i)) (I 113 1)) 24).1 = 0
          · exact ip (by rw [gz]; rfl) (h0 K2 I3 L2 k12 f13 ⟨i, hiN, by rw [sO, if_neg (by rw [wb]; decide), if_pos gz]⟩)
          · refine iq (fun z => gz ((q_ni (b := 0) (by omega) (by omega)).mp z)) ?_
            rw [← nI_succ]
            refine ih (i + 1) K2 I3 L2 (by omega) k12 f13 (fun j hj => ?_)
            by_cases e : j = i
            · subst e
              exact ⟨_, by rw [sO, if_neg (by rw [wb]; decide), if_neg gz], by omega, sc⟩
            · obtain ⟨f, s1, s2, s3⟩ := v1 j (by omega)
              refine ⟨f, s1, s2, s3.fr (fun q => ?_) (fun q => ?_) (fun q => ?_)⟩
              · rw [f3 _ q (by unfold cvS trS; omega), f2 _ q (by unfold gS; omega)]
              · rw [f3 _ q (by unfold cvS trS; omega), f2 _ q (by unfold gS; omega)]
              · rw [f3 _ q (by unfold cvS trS; omega), f2 _ q (by unfold gS; omega)]
  exact wp_X12_shapesStand hW.1 (lp N 0 K I L (by omega) KD.rf Fz.rfl' (fun j hj => by omega))
end MKR
