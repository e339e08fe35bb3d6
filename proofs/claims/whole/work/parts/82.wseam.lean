section WSM
variable {n0 d : Nat} {K K' : z_K} {I I' : z_I} {L : z_L} {np nr nb na t ns : Nat} {pid pts rid rp rk ln cx cy bid m sid s1 s2 sa sb sc se : Nat → Nat} {par : Nat → Option Nat} {X Y : Nat → List Int32} {A : Int32 → Int32 → Option (Int32 × Int32)} {dy size : Int32} {s : Nat}
/-- the reference's word on a piece at a size as of a day -/
theorem c13_wrongDrawn0 {Q : z_q} {i : Nat} (hW : Wd K I np nr nb na t pid pts rid rp rk ln cx cy bid m par X Y A) (hi : i < np) (h1 : ¬ (0 ≤ size.toInt ∧ size.toInt < 11) → Q (some (.int (-1))) I L) (h2 : (0 ≤ size.toInt ∧ size.toInt < 11) → bnd dy 0 1000 < 0 → Q (some (.int (bnd dy 0 1000))) I L)
    (h3 : ∀ s, s < 11 → size = nI s → ¬ bnd dy 0 1000 < 0 → ∀ I' L', Fz dr4 I I' → (∀ g, DAt I X Y rp rk nr t pts par np s dy i = some g → ∀ k, k < pts i → I' 92 k = (g k).1 ∧ I' 93 k = (g k).2) → Q (some (.int (if DAt I X Y rp rk nr t pts par np s dy i = none then (-7) else 0))) I' L') : RM0 n0 xX13_wrongDrawn (d + 11) [.ref (n0 + 59), .int (nI i), .int size, .int dy] K I L Q := by
  have hM := hW.2.1
  have hnp := hW.2.2.2.1.n
  refine wp_X13_wrongDrawn hM (c13_isPiece hM hW.2.2.2.2.1.2.1 (by omega) ⟨_, rfl, ?_⟩)
  rw [bI_t (by rw [q_nI (by omega)]; omega)]
  refine iq (by decide) (c13_isSize hM ⟨_, rfl, ?_⟩)
  by_cases g : 0 ≤ size.toInt ∧ size.toInt < 11
  · rw [bI_t g]
    obtain ⟨s, rfl, _, es⟩ := q_of g.1
    refine iq (by decide) (c13_bounds hM ⟨_, rfl, ?_⟩)
    by_cases gb : bnd dy 0 1000 < 0
    · exact ip gb (h2 g gb)
    · refine iq gb (c13_drawA0 hW hi (fun I' L' f' hx => ⟨_, rfl, ?_⟩))
      have := h3 s (by omega) rfl gb I' L' f' hx
      show Q (some (.int (if bI (DAt I X Y rp rk nr t pts par np s dy i ≠ none) = 0 then (-7) else 0))) I' L'
      by_cases gd : DAt I X Y rp rk nr t pts par np s dy i = none
      · rw [if_pos gd] at this
        rw [bI_f (fun z => z gd), if_pos rfl]
        exact this
      · rw [if_neg gd] at this
        rw [bI_t gd, if_neg (by decide)]
        exact this
  · rw [bI_f g]
    exact ip rfl (h1 g)
theorem c13_wrongSeam {Q : z_q} (hW : Wd K I np nr nb na t pid pts rid rp rk ln cx cy bid m par X Y A) (hB : WdB I np A) (hSK : SmK K ns sid) (hSD : SmD K I ns np sid pid pts s1 s2 sa sb sc se) (hn : I 59 62 = nI ns) (hs : s < ns)
    (h1 : ¬ (0 ≤ size.toInt ∧ size.toInt < 11) → Q (some (.int (-1))) I L) (h2 : (0 ≤ size.toInt ∧ size.toInt < 11) → bnd dy 0 1000 < 0 → Q (some (.int (bnd dy 0 1000))) I L)
    (h3 : ∀ z, z < 11 → size = nI z → ¬ bnd dy 0 1000 < 0 → (DAt I X Y rp rk nr t pts par np z dy (s1 s) = none ∨ DAt I X Y rp rk nr t pts par np z dy (s2 s) = none) → ∀ I' L', Fz (gS K) I I' → Q (some (.int (-7))) I' L')
    (h4 : ∀ z, z < 11 → size = nI z → ¬ bnd dy 0 1000 < 0 → ∀ g1 g2, DAt I X Y rp rk nr t pts par np z dy (s1 s) = some g1 → DAt I X Y rp rk nr t pts par np z dy (s2 s) = some g2 → ∀ I' L', Fz (gS K) I I' → I' 59 75 = LenP I g1 (s1 s) (pts (s1 s)) (sa s) (sb s) → I' 59 76 = LenP I g2 (s2 s) (pts (s2 s)) (sc s) (se s) → Q (some (.int 0)) I' L') :
    RM0 n0 xX13_wrongSeam (d + 12) [.ref (n0 + 59), .int (nI s), .int size, .int dy] K I L Q := by
  have hM := hW.2.1
  have h20 := hSK.1
  obtain ⟨a1, a2, a3, a4, a5, a6, a7, a8, a9, a10, a11, a12, c1, c2, c3, c4, c5, c6, c7, c8⟩ := hSD s hs
  refine wp_X13_wrongSeam hM (c13_isSeam hM hn (by omega) ⟨_, rfl, ?_⟩)
  rw [bI_t (by rw [q_nI (by omega)]; omega)]
  refine iq (by decide) (c13_isSize hM ⟨_, rfl, ?_⟩)
  by_cases g : 0 ≤ size.toInt ∧ size.toInt < 11
  · rw [bI_t g]
    refine iq (by decide) ⟨q_inn (by omega) (by omega), ?_⟩
    rw [q_cl (by omega), c1]
    obtain ⟨z, hz, _, ez⟩ := q_of g.1
    have hz11 : z < 11 := by rw [hz, q_nI (by omega)] at g; omega
    refine c13_wrongDrawn hW a1 (fun w => absurd g w) (fun _ w => ⟨_, rfl, ip w (h2 g w)⟩) (fun z' hz' ez' gb I1 L1 f1 hx => ⟨_, rfl, ?_⟩)
    have f1T : Fz (gT K) I I1 := f1.mono (fun _ _ w => gT_s w)
    have w1 := hW.fr KD.rf f1
    cases eD1 : DAt I X Y rp rk nr t pts par np z' dy (s1 s) with
    | none =>
      rw [if_pos rfl]
      exact ip (by decide) (h3 z' hz' ez' gb (Or.inl eD1) I1 L1 f1)
    | some g1 =>
      rw [if_neg (show ¬ (some g1 = none) by simp), f1 98 s (by unfold gS; omega), f1 99 s (by unfold gS; omega), f1 100 s (by unfold gS; omega), c1, c2, c3]
      refine iq (by decide) (c13_lengthOf (d := d + 7) (g := g1) w1 (hB.fT f1T) a1 (hx g1 eD1) (DAt_b hW hB a1 hz' eD1) a3 a4 (fun I2 f2 => ⟨_, rfl, ?_⟩))
      rw [LenP_f f1T]
      have f2g : Fz (gS K) I (zI I2 59 75 (LenP I g1 (s1 s) (pts (s1 s)) (sa s) (sb s))) := (f1.trans (f2.mono (fun a j w => fwS_g w))).z (g59 (by omega))
      have f2T : Fz (gT K) I (zI I2 59 75 (LenP I g1 (s1 s) (pts (s1 s)) (sa s) (sb s))) := f2g.mono (fun _ _ w => gT_s w)
      have w2 := hW.fr KD.rf f2g
      rw [f2 101 s (by unfold fwS; omega), f1 101 s (by unfold gS; omega), c4]
      refine c13_wrongDrawn0 w2 a2 (fun w => absurd g w) (fun _ w => absurd w gb) (fun z2 hz2 ez2 _ I3 L3 f3 hx3 => ⟨_, rfl, ?_⟩)
      have ess : z2 = z' := (q_ni (by omega) (by omega)).mp (ez2.symm.trans ez')
      subst ess
      rw [DAt_f f2T] at hx3 ⊢
      have f3g : Fz (gS K) I I3 := f2g.trans (f3.mono (fun a j z => dr4_g z))
      have f3T : Fz (gT K) I I3 := f3g.mono (fun _ _ w => gT_s w)
      cases eD2 : DAt I X Y rp rk nr t pts par np z2 dy (s2 s) with
      | none =>
        rw [if_pos rfl]
        exact ip (by decide) (h3 z2 hz2 ez2 gb (Or.inr eD2) I3 L3 f3g)
      | some g2 =>
        rw [if_neg (show ¬ (some g2 = none) by simp), f3g 101 s (by unfold gS; omega), f3g 102 s (by unfold gS; omega), f3g 103 s (by unfold gS; omega), c4, c5, c6]
        refine iq (by decide) (c13_lengthOf (d := d + 7) (g := g2) (hW.fr KD.rf f3g) (hB.fT f3T) a2 (hx3 g2 eD2) (DAt_b hW hB a2 hz2 eD2) a5 a6 (fun I4 f4 => ⟨_, rfl, ?_⟩))
        rw [LenP_f f3T]
        refine h4 z2 hz2 ez2 gb g1 g2 eD1 eD2 _ L3 ((f3g.trans (f4.mono (fun a j w => fwS_g w))).z (g59 (by omega))) ?_ zI_s
        rw [zI_d (by omega), f4 59 75 (by unfold fwS; omega), f3 59 75 (by unfold dr4 drO d82 rdr rtS rrS; omega), zI_s]
  · rw [bI_f g]
    exact ip rfl (h1 g)
end WSM
