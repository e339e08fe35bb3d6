/-! at, on -/
noncomputable def DAt (I : z_I) (X Y : Nat → List Int32) (rp rk : Nat → Nat) (nr t : Nat) (pts : Nat → Nat) (par : Nat → Option Nat) (np s : Nat) (dy : Int32) (p : Nat) : Option (Nat → Int32 × Int32) := DrP (fun q => tabV I (nI q) (nI s) dy t) (I 81) X Y rp rk nr pts par (fun p k => I 70 (10 * p + k)) (fun p k => I 71 (10 * p + k)) (fun _ _ => (0, 0)) (nI s) dy np p
noncomputable def DFo (I : z_I) (X Y : Nat → List Int32) (rp rk : Nat → Nat) (nr t : Nat) (pts : Nat → Nat) (par : Nat → Option Nat) (A : Int32 → Int32 → Option (Int32 × Int32)) (np b p : Nat) : Option (Nat → Int32 × Int32) := DrP (fun q => msd I b q t) (I 81) X Y rp rk nr pts par (fun p k => I 70 (10 * p + k)) (fun p k => I 71 (10 * p + k)) (mvA A b) (I 64 b) (I 59 0) np p
section ATO
variable {n0 d : Nat} {K K' : z_K} {I I' : z_I} {L : z_L} {np nr nb na t : Nat} {pid pts rid rp rk ln cx cy bid m : Nat → Nat} {par : Nat → Option Nat} {X Y : Nat → List Int32} {A : Int32 → Int32 → Option (Int32 × Int32)} {dy : Int32} {p s b : Nat} {P : z_K → z_I → z_L → Prop} {p0 p1 p2 p3 p4 : Int32}
theorem DAt_f (hI : Fz (gT K) I I') : DAt I' X Y rp rk nr t pts par np s dy p = DAt I X Y rp rk nr t pts par np s dy p := by
  unfold DAt
  rw [show I' 81 = I 81 from funext fun q => hI 81 q (by unfold gT gS; omega), show I' 70 = I 70 from funext fun q => hI 70 q (by unfold gT gS; omega), show I' 71 = I 71 from funext fun q => hI 71 q (by unfold gT gS; omega), show (fun q => tabV I' (nI q) (nI s) dy t) = fun q => tabV I (nI q) (nI s) dy t from funext fun q => tabV_fT hI t]
theorem DFo_f (hI : Fz (gT K) I I') : DFo I' X Y rp rk nr t pts par A np b p = DFo I X Y rp rk nr t pts par A np b p := by
  unfold DFo msd
  rw [show I' 81 = I 81 from funext fun q => hI 81 q (by unfold gT gS; omega), show I' 70 = I 70 from funext fun q => hI 70 q (by unfold gT gS; omega), show I' 71 = I 71 from funext fun q => hI 71 q (by unfold gT gS; omega), hI 64 b (by unfold gT gS; omega), hI 59 0 (by unfold gT gS; omega), show I' 65 = I 65 from funext fun q => hI 65 q (by unfold gT gS; omega)]
  rw [show (fun q => if I 65 (8 * b + q) < 0 then tabV I' (nI q) (I 64 b) (I 59 0) t else I 65 (8 * b + q)) = fun q => if I 65 (8 * b + q) < 0 then tabV I (nI q) (I 64 b) (I 59 0) t else I 65 (8 * b + q) from funext fun q => by rw [tabV_fT hI]]
theorem rf_gT {k : Nat} {v : Int32} (h : Fz (gS K) I I') : Fz (gT K) I (zI I' 1 k v) := (h.mono (fun _ _ z => gT_s z)).z (Or.inr (Or.inl rfl))
theorem rf_late {k : Nat} {I2 I4 : z_I} (h1 : Fz (gS K) I I2) (h2 : Fz (gS K) (zI I2 1 k (I2 1 k + 1)) I4) : Fz (gS K) (rfI I k) (zI I4 75 k (I4 75 k + 1)) := by
  intro a j hn
  unfold rfI
  have n75 : ∀ q, ¬ gS K 75 q := fun q => by unfold gS; omega
  have n1 : ∀ q, ¬ gS K 1 q := fun q => by unfold gS; omega
  by_cases e : a = 75 ∧ j = k
  · obtain ⟨rfl, rfl⟩ := e
    rw [zI_s, zI_s, h2 75 j (n75 j), zI_r (by omega), h1 75 j (n75 j)]
  · rw [zI_d e, zI_d e, h2 a j hn, zI_v, zI_v, h1 a j hn, h1 1 k (n1 k)]
theorem rf_both {k : Nat} {I2 : z_I} (h2 : Fz (gS K) (zI I 1 k (I 1 k + 1)) I2) : Fz (gS K) (rfI I k) (zI I2 75 k (I2 75 k + 1)) := rf_late Fz.rfl' h2
/-- the reference's word on a piece at a size as of a day -/
theorem c13_wrongDrawn {Q : z_q} {size : Int32} {i : Nat} (hW : Wd K I np nr nb na t pid pts rid rp rk ln cx cy bid m par X Y A) (hi : i < np) (h1 : ¬ (0 ≤ size.toInt ∧ size.toInt < 11) → Q (some (.int (-1))) I L) (h2 : (0 ≤ size.toInt ∧ size.toInt < 11) → bnd dy 0 1000 < 0 → Q (some (.int (bnd dy 0 1000))) I L)
    (h3 : ∀ s, s < 11 → size = nI s → ¬ bnd dy 0 1000 < 0 → ∀ I' L', Fz (gS K) I I' → (∀ g, DAt I X Y rp rk nr t pts par np s dy i = some g → ∀ k, k < pts i → I' 92 k = (g k).1 ∧ I' 93 k = (g k).2) → Q (some (.int (if DAt I X Y rp rk nr t pts par np s dy i = none then (-7) else 0))) I' L') : RM0 n0 xX13_wrongDrawn (d + 11) [.ref (n0 + 59), .int (nI i), .int size, .int dy] K I L Q := by
  have hM := hW.2.1
  have hnp := hW.2.2.2.1.n
  refine wp_X13_wrongDrawn hM (c13_isPiece hM hW.2.2.2.2.1.2.1 (by omega) ⟨_, rfl, ?_⟩)
  rw [bI_t (by rw [q_nI (by omega)]; omega)]
  refine iq (by decide) (c13_isSize hM ⟨_, rfl, ?_⟩)
  by_cases g : 0 ≤ size.toInt ∧ size.toInt < 11
  · rw [bI_t g]
    obtain ⟨s, rfl, _, es⟩ := q_of g.1
    refine iq (by decide) (c13_bounds hM ⟨_, rfl, ?_⟩)
    by_cases gb : bnd dy 0 1000 < 0
    · exact ip gb (h2 g gb)
    · refine iq gb (c13_drawA hW hi (fun I' L' f' hx => ⟨_, rfl, ?_⟩))
      have := h3 s (by omega) rfl gb I' L' f' hx
      show Q (some (.int (if bI (DAt I X Y rp rk nr t pts par np s dy i ≠ none) = 0 then (-7) else 0))) I' L'
      by_cases gd : DAt I X Y rp rk nr t pts par np s dy i = none
      · rw [if_pos gd] at this
        rw [bI_f (fun z => z gd), if_pos rfl]
        exact this
      · rw [if_neg gd] at this
        rw [bI_t gd, if_neg (by decide)]
        exact this
  · rw [bI_f g]
    exact ip rfl (h1 g)
/-- the component draws a piece at a size -/
theorem c12_sndAt {Q : z_R} (hW : Wd K I np nr nb na t pid pts rid rp rk ln cx cy bid m par X Y A) (hp : p < np) (hs : s < 11)
    (h : ∀ K' I' L', KD K K' → Fz (gS K) I I' → EnC K' I' np nb pid bid A (fun q => tabV I (nI q) (nI s) dy t) (I 81) (fun p k => I 70 (10 * p + k)) (fun p k => I 71 (10 * p + k)) (fun _ _ => (0, 0)) (nI s) dy → DiC I' np pts (DAt I X Y rp rk nr t pts par np s dy) → I' 10 p ≠ 0 → Q (some (.int (bI (DAt I X Y rp rk nr t pts par np s dy p ≠ none)))) K' I' L') :
    RM n0 xX12_drawAt (d + 4) 0 0 [.ref (n0 + 0), .int (nI s), .int dy] K I L (fun vv K1 I1 L1 => vv = none ∧ CLay K1 ∧ RM n0 xX2_sound (d + 4) 0 0 [.ref (n0 + 8), .ref (n0 + pid p)] K1 I1 L1 Q) := by
  refine c12_drawAt (d := d + 2) hW hs (fun K1 I1 L1 k1 f1 e1 z1 => ?_)
  have w1 := hW.fr k1 f1
  refine ⟨rfl, w1.1, c2_sound w1 e1 (fun q hq => Or.inl (z1 q (by have := hW.2.2.2.1.n; omega))) hp (fun K2 I2 L2 k2 f2 d2 n2 _ => ?_)⟩
  exact h K2 I2 L2 (k1.trans k2.kd) (f1.trans (f2.mono (fun a j z => dS_g z))) (e1.fr w1.2.2.2.1 (k2.2.2 8 2 (by decide)) f2) d2 n2
theorem c12_sndFor {Q : z_R} (hW : Wd K I np nr nb na t pid pts rid rp rk ln cx cy bid m par X Y A) (hp : p < np) (hb : b < nb)
    (h : ∀ K' I' L', KD K K' → Fz (gS K) I I' → DiC I' np pts (DFo I X Y rp rk nr t pts par A np b) → I' 10 p ≠ 0 → Q (some (.int (bI (DFo I X Y rp rk nr t pts par A np b p ≠ none)))) K' I' L') :
    RM n0 xX12_drawFor (d + 4) 0 0 [.ref (n0 + 0), .ref (n0 + bid b)] K I L (fun vv K1 I1 L1 => vv = none ∧ CLay K1 ∧ RM n0 xX2_sound (d + 4) 0 0 [.ref (n0 + 8), .ref (n0 + pid p)] K1 I1 L1 Q) := by
  refine c12_drawFor (d := d + 1) hW hb (fun K1 I1 L1 k1 f1 e1 z1 => ?_)
  have w1 := hW.fr k1 f1
  refine ⟨rfl, w1.1, c2_sound w1 e1 (fun q hq => Or.inl (z1 q (by have := hW.2.2.2.1.n; omega))) hp (fun K2 I2 L2 k2 f2 d2 n2 _ => ?_)⟩
  exact h K2 I2 L2 (k1.trans k2.kd) (f1.trans (f2.mono (fun a j z => dS_g z))) d2 n2
theorem DiC.pl {D : Nat → Option (Nat → Int32 × Int32)} {g : Nat → Int32 × Int32} {k : Nat} (h : DiC I np pts D) (hp : p < np) (hn : I 10 p ≠ 0) (hg : D p = some g) (hk : k < pts p) : I 11 (10 * p + k) = (g k).1 ∧ I 12 (10 * p + k) = (g k).2 := by
  rcases h p hp with e | ⟨e, g', eg, hg'⟩ | ⟨e, eg⟩
  · exact absurd e hn
  · rw [hg] at eg
    rw [Option.some.inj eg]
    exact hg' k hk
  · rw [hg] at eg; cases eg
end ATO
