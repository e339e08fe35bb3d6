/-! seams: their sides are measured -/
def SmD (K : z_K) (I : z_I) (ns np : Nat) (sid pid pts s1 s2 sa sb sc se : Nat → Nat) : Prop := ∀ s, s < ns → s1 s < np ∧ s2 s < np ∧ sa s < pts (s1 s) ∧ sb s < pts (s1 s) ∧ sc s < pts (s2 s) ∧ se s < pts (s2 s) ∧ K.2.2 (sid s) 0 = some (pid (s1 s)) ∧ K.2.2 (sid s) 5 = some (pid (s2 s)) ∧ I (sid s) 1 = nI (sa s) ∧ I (sid s) 2 = nI (sb s) ∧ I (sid s) 6 = nI (sc s) ∧ I (sid s) 7 = nI (se s)
  ∧ I 98 s = nI (s1 s) ∧ I 99 s = nI (sa s) ∧ I 100 s = nI (sb s) ∧ I 101 s = nI (s2 s) ∧ I 102 s = nI (sc s) ∧ I 103 s = nI (se s) ∧ I (sid s) 3 = I 104 s ∧ I (sid s) 4 = I 105 s
def eS (K : z_K) (a j : Nat) : Prop := (10 ≤ a ∧ a ≤ 14) ∨ trS a j ∨ (152 ≤ a ∧ (K.2.1 a).1 = 8 ∧ 12 ≤ j)
section SID
variable {n0 d : Nat} {K K' : z_K} {I I' : z_I} {L : z_L} {np nr nb na t ns : Nat} {pid pts rid rp rk ln cx cy bid m sid s1 s2 sa sb sc se : Nat → Nat} {par : Nat → Option Nat} {X Y : Nat → List Int32} {A : Int32 → Int32 → Option (Int32 × Int32)} {ms ru : Nat → Int32} {gx gy : Nat → Nat → Int32} {mv : Nat → Nat → Int32 × Int32} {sz dy : Int32} {s : Nat}
theorem eS_g {a j : Nat} (h : eS K a j) : gS K a j := by
  rcases h with h | h | h
  · exact dS_g h
  · exact trS_g h
  · exact Or.inr (Or.inr (Or.inr (Or.inr (Or.inr (Or.inr (Or.inr (Or.inr (Or.inr (Or.inr (Or.inr h))))))))))
theorem eS_k (h : KD K K') : eS K' = eS K := by
  funext a j; unfold eS; rw [h.2.1]
theorem SmD.fT (h : SmD K I ns np sid pid pts s1 s2 sa sb sc se) (hS : SmK K ns sid) (hk : KD K K') (hI : Fz (gT K) I I') : SmD K' I' ns np sid pid pts s1 s2 sa sb sc se := by
  intro s hs
  obtain ⟨b1, b2, b3, b4, b5, b6, b7, b8⟩ := hS.2.1 s hs
  have lo : ∀ j, j < 12 → I' (sid s) j = I (sid s) j := fun j hj => hI _ _ (by unfold gT gS; omega)
  have h9 := h s hs
  rw [hk.hi b2, hk.hi b2, lo 1 (by omega), lo 2 (by omega), lo 6 (by omega), lo 7 (by omega), lo 3 (by omega), lo 4 (by omega), hI 98 s (by unfold gT gS; omega), hI 99 s (by unfold gT gS; omega), hI 100 s (by unfold gT gS; omega), hI 101 s (by unfold gT gS; omega), hI 102 s (by unfold gT gS; omega), hI 103 s (by unfold gT gS; omega), hI 104 s (by unfold gT gS; omega), hI 105 s (by unfold gT gS; omega)]
  exact h9
theorem SmK.kd (h : SmK K ns sid) (hk : KD K K') : SmK K' ns sid := by
  refine ⟨h.1, fun s hs => ?_, h.2.2⟩
  obtain ⟨b1, b2, b3, b4, b5, b6, b7, b8⟩ := h.2.1 s hs
  rw [hk.1, hk.2.1, hk.2.2 21 s (by omega), hk.hi b2, hk.hi b2]
  exact ⟨b1, b2, b3, b4, b5, b6, b7, b8⟩
theorem EnC.fe (h : EnC K I np nb pid bid A ms ru gx gy mv sz dy) (hP : PcK K np pid) (hk : K'.2.2 8 2 = K.2.2 8 2) (hI : Fz (eS K) I I') : EnC K' I' np nb pid bid A ms ru gx gy mv sz dy := by
  obtain ⟨a, b, c, d, e, f⟩ := h
  refine ⟨fun q hq => by rw [hI 9 q (by unfold eS trS; omega)]; exact a q hq, by rw [hI 8 0 (by unfold eS trS; omega)]; exact b, by rw [hI 8 1 (by unfold eS trS; omega)]; exact c, ?_, fun p k hp hk => ?_, by rw [hk]; exact f⟩
  · rw [← d]; funext q; exact hI 81 q (by unfold eS trS; omega)
  · have n2 := hP.ng (x := 2) (j := k) hp (by omega)
    have n3 := hP.ng (x := 3) (j := k) hp (by omega)
    rw [hI _ _ (fun z => n2 (Or.inl (eS_g z))), hI _ _ (fun z => n3 (Or.inl (eS_g z)))]
    exact e p k hp hk
theorem DiC.fe {D : Nat → Option (Nat → Int32 × Int32)} (h : DiC I np pts D) (hI : ∀ a j, 10 ≤ a → a ≤ 12 → I' a j = I a j) : DiC I' np pts D := by
  intro q hq
  rw [hI 10 q (by omega) (by omega)]
  rcases h q hq with e | ⟨e, g, eg, hg⟩ | e
  · exact Or.inl e
  · exact Or.inr (Or.inl ⟨e, g, eg, fun k hk => by rw [hI 11 _ (by omega) (by omega), hI 12 _ (by omega) (by omega)]; exact hg k hk⟩)
  · exact Or.inr (Or.inr e)
/-- what the component keeps of a seam's sides -/
theorem c12_sides {Q : z_R} (hW : Wd K I np nr nb na t pid pts rid rp rk ln cx cy bid m par X Y A) (hB : WdB I np A) (hE : EnC K I np nb pid bid A ms ru gx gy mv sz dy) (hD : DiC I np pts (DrP ms ru X Y rp rk nr pts par gx gy mv sz dy np)) (hbD : ∀ q g, q < np → DrP ms ru X Y rp rk nr pts par gx gy mv sz dy np q = some g → bnP g (pts q)) (hSK : SmK K ns sid) (hSD : SmD K I ns np sid pid pts s1 s2 sa sb sc se) (hs : s < ns)
    (h0 : (DrP ms ru X Y rp rk nr pts par gx gy mv sz dy np (s1 s) = none ∨ DrP ms ru X Y rp rk nr pts par gx gy mv sz dy np (s2 s) = none) → ∀ K' I' L', KL K K' → Fz (eS K) I I' → DiC I' np pts (DrP ms ru X Y rp rk nr pts par gx gy mv sz dy np) → Q (some (.int 0)) K' I' L')
    (h1 : ∀ g1 g2, DrP ms ru X Y rp rk nr pts par gx gy mv sz dy np (s1 s) = some g1 → DrP ms ru X Y rp rk nr pts par gx gy mv sz dy np (s2 s) = some g2 → ∀ K' I' L', KL K K' → Fz (eS K) I I' → DiC I' np pts (DrP ms ru X Y rp rk nr pts par gx gy mv sz dy np) → I' (sid s) 12 = LenP I g1 (s1 s) (pts (s1 s)) (sa s) (sb s) → I' (sid s) 13 = LenP I g2 (s2 s) (pts (s2 s)) (sc s) (se s) → Q (some (.int 1)) K' I' L') :
    RM n0 xX12_measureSides (d + 5) 0 0 [.ref (n0 + 0), .ref (n0 + sid s)] K I L Q := by
  obtain ⟨b1, b2, b3, b4, b5, b6, b7, b8⟩ := hSK.2.1 s hs
  obtain ⟨a1, a2, a3, a4, a5, a6, a7, a8, a9, a10, a11, a12, _⟩ := hSD s hs
  have dE : ∀ a j, dS a j → eS K a j := fun a j z => Or.inl z
  have tE : ∀ a j, trS a j → eS K a j := fun a j z => Or.inr (Or.inl z)
  refine wp_X12_measureSides hW.1 ⟨by omega, b4, pid (s1 s), a7, c2_sound hW hE hD a1 (fun K1 I1 L1 k1 f1 d1 n1 m1 => ⟨_, rfl, hW.1.kd k1.kd, ?_⟩)⟩
  have w1 := hW.fr k1.kd (f1.mono (fun a j z => dS_g z))
  have e1 := hE.fr hW.2.2.2.1 (k1.2.2 8 2 (by decide)) f1
  cases eD1 : DrP ms ru X Y rp rk nr pts par gx gy mv sz dy np (s1 s) with
  | none =>
    rw [bI_f (by simp)]
    exact ip rfl (h0 (Or.inl eD1) K1 I1 L1 k1 (f1.mono dE) d1)
  | some g1 =>
    rw [bI_t (by simp)]
    refine iq (by decide) ⟨by rw [k1.1]; omega, by rw [k1.2.1]; exact b4, pid (s2 s), by rw [k1.2.2 _ _ (by omega)]; exact a8, c2_sound w1 e1 d1 a2 (fun K2 I2 L2 k2 f2 d2 n2 m2 => ⟨_, rfl, w1.1.kd k2.kd, ?_⟩)⟩
    have k12 : KL K K2 := ⟨k2.1.trans k1.1, k2.2.1.trans k1.2.1, fun a j h => (k2.2.2 a j h).trans (k1.2.2 a j h)⟩
    have f12 : Fz (eS K) I I2 := (f1.mono dE).trans (f2.mono dE)
    have w2 := hW.fr k12.kd (f12.mono (fun a j z => eS_g z))
    cases eD2 : DrP ms ru X Y rp rk nr pts par gx gy mv sz dy np (s2 s) with
    | none =>
      rw [bI_f (by simp)]
      exact ip rfl (h0 (Or.inr eD2) K2 I2 L2 k12 f12 d2)
    | some g2 =>
      rw [bI_t (by simp)]
      have n1' : I2 10 (s1 s) ≠ 0 := m2 _ n1
      have hB2 := hB.fT (f12.mono (fun a j z => gT_s (eS_g z)))
      have lo2 : ∀ j, j < 12 → I2 (sid s) j = I (sid s) j := fun j hj => f12 _ _ (by unfold eS trS; omega)
      refine iq (by decide) ⟨by rw [k12.1]; omega, by rw [k12.2.1]; exact b4, pid (s1 s), by rw [k12.2.2 _ _ (by omega)]; exact a7, ?_⟩
      rw [lo2 1 (by omega), lo2 2 (by omega), a9, a10]
      refine c2_lengthOf (g := g1) w2 hB2 a1 (fun k hk => d2.pl a1 n1' eD1 hk) (hbD _ _ a1 eD1) a3 a4 (fun I3 f3 => ⟨_, rfl, pid (s2 s), by rw [k12.2.2 _ _ (by omega)]; exact a8, ?_⟩)
      have f13 : Fz (eS K) I I3 := f12.trans (f3.mono tE)
      have f14 : ∀ v, Fz (eS K) I (zI I3 (sid s) 12 v) := fun v => f13.z (Or.inr (Or.inr ⟨b2, b4, by omega⟩))
      rw [zI_d (show ¬ (sid s = sid s ∧ 6 = 12) by omega), zI_d (show ¬ (sid s = sid s ∧ 7 = 12) by omega), f13 (sid s) 6 (by unfold eS trS; omega), f13 (sid s) 7 (by unfold eS trS; omega), a11, a12]
      have fa : ∀ v, Fz (gT K) I (zI I3 (sid s) 12 v) := fun v => (f14 v).mono (fun a j z => gT_s (eS_g z))
      have fd : ∀ v a j, 10 ≤ a → a ≤ 12 → zI I3 (sid s) 12 v a j = I2 a j := fun v a j h1 h2 => by rw [zI_r (by omega), f3 _ _ (by unfold trS; omega)]
      refine c2_lengthOf (g := g2) (hW.fT k12.kd (fa _)) (hB.fT (fa _)) a2 (fun k hk => (d2.fe (fun a j h1 h2 => fd _ a j h1 h2)).pl a2 (by rw [fd _ 10 _ (by omega) (by omega)]; exact n2) eD2 hk) (hbD _ _ a2 eD2) a5 a6 (fun I5 f5 => ⟨_, rfl, ?_⟩)
      rw [LenP_f (fa _)]
      refine h1 g1 g2 eD1 eD2 K2 _ L2 k12 (((f14 _).trans (f5.mono tE)).z (Or.inr (Or.inr ⟨b2, b4, by omega⟩))) (d2.fe (fun a j h1 h2 => by rw [zI_r (by omega), f5 _ _ (by unfold trS; omega)]; exact fd _ a j h1 h2)) ?_ zI_s
      rw [zI_d (by omega), f5 _ _ (by unfold trS; omega), zI_s, LenP_f (f12.mono (fun a j z => gT_s (eS_g z)))]
end SID
