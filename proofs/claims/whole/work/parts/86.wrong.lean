/-! wrong -/
noncomputable def wrB (I : z_I) (X Y : Nat → List Int32) (rp rk : Nat → Nat) (nr t : Nat) (pts : Nat → Nat) (par : Nat → Option Nat) (np : Nat) (s1 s2 sa sb sc se nc : Nat → Nat) (dy : Int32) (z s : Nat) : Bool :=
  match DAt I X Y rp rk nr t pts par np z dy (s1 s), DAt I X Y rp rk nr t pts par np z dy (s2 s) with
  | some g1, some g2 => decide (MtS I s (LenP I g1 (s1 s) (pts (s1 s)) (sa s) (sb s)) (LenP I g2 (s2 s) (pts (s2 s)) (sc s) (se s)) = 0 ∨ ¬ LoS I nc s (LenP I g1 (s1 s) (pts (s1 s)) (sa s) (sb s)) (LenP I g2 (s2 s) (pts (s2 s)) (sc s) (se s)) = -9)
  | _, _ => true
def inF (f : Nat → Bool) (z : Nat) : Nat → Nat → Option Int32
  | 0, _ => none
  | m + 1, j => if f j = true then some (32 * nI z + nI j) else inF f z m (j + 1)
def ouF (f : Nat → Nat → Bool) (ns : Nat) : Nat → Nat → Int32
  | 0, _ => -9
  | m + 1, z => (inF (f z) z ns 0).getD (ouF f ns m (z + 1))
def OutW (_n0 _d : Nat) (K : z_K) (I : z_I) (L : z_L) (z j : Nat) (Q : z_R) : Prop := Q (some (.int (32 * nI z + nI j))) K I L
section WRG
variable {n0 d : Nat} {K K1 : z_K} {I I' : z_I} {L : z_L} {np nr nb na t ns : Nat} {pid pts rid rp rk ln cx cy bid m sid s1 s2 sa sb sc se nc : Nat → Nat} {par : Nat → Option Nat} {X Y : Nat → List Int32} {A : Int32 → Int32 → Option (Int32 × Int32)} {P : z_K → z_I → z_L → Prop} {dy p0 : Int32} {z s : Nat}
theorem wrB_f (hI : Fz (gT K) I I') : wrB I' X Y rp rk nr t pts par np s1 s2 sa sb sc se nc dy z s = wrB I X Y rp rk nr t pts par np s1 s2 sa sb sc se nc dy z s := by
  unfold wrB
  rw [DAt_f hI, DAt_f hI]
  cases DAt I X Y rp rk nr t pts par np z dy (s1 s) with
  | none => rfl
  | some g1 =>
    cases DAt I X Y rp rk nr t pts par np z dy (s2 s) with
    | none => rfl
    | some g2 =>
      dsimp only
      rw [LenP_f hI, LenP_f hI, MtS_f hI, LoS_f hI]
theorem wrB_s {g1 g2 : Nat → Int32 × Int32} (e1 : DAt I X Y rp rk nr t pts par np z dy (s1 s) = some g1) (e2 : DAt I X Y rp rk nr t pts par np z dy (s2 s) = some g2) : wrB I X Y rp rk nr t pts par np s1 s2 sa sb sc se nc dy z s = decide (MtS I s (LenP I g1 (s1 s) (pts (s1 s)) (sa s) (sb s)) (LenP I g2 (s2 s) (pts (s2 s)) (sc s) (se s)) = 0 ∨ ¬ LoS I nc s (LenP I g1 (s1 s) (pts (s1 s)) (sa s) (sb s)) (LenP I g2 (s2 s) (pts (s2 s)) (sc s) (se s)) = -9) := by
  unfold wrB; rw [e1, e2]
theorem wrB_n (e : DAt I X Y rp rk nr t pts par np z dy (s1 s) = none ∨ DAt I X Y rp rk nr t pts par np z dy (s2 s) = none) : wrB I X Y rp rk nr t pts par np s1 s2 sa sb sc se nc dy z s = true := by
  unfold wrB
  rcases e with e | e
  · rw [e]
  · rw [e]
    cases DAt I X Y rp rk nr t pts par np z dy (s1 s) with
    | none => rfl
    | some g1 => rfl
theorem c12_wr36 {Q : z_R} (hW : Wd K I np nr nb na t pid pts rid rp rk ln cx cy bid m par X Y A) (hB : WdB I np A) (hSK : SmK K ns sid) (hSD : SmD K I ns np sid pid pts s1 s2 sa sb sc se) (hNt : NtD I ns sid nc) (hn : I 0 13 = nI ns) (hz : z < 11) {I1 : z_I} (k1 : KD K K1) (f1 : Fz (gS K) I I1)
    (hE : EnC K1 I1 np nb pid bid A (fun q => tabV I (nI q) (nI z) dy t) (I 81) (fun p k => I 70 (10 * p + k)) (fun p k => I 71 (10 * p + k)) (fun _ _ => (0, 0)) (nI z) dy) :
    ∀ w j K2 I2 L2, j + w = ns → KL K1 K2 → Fz (eS K) I1 I2 → DiC I2 np pts (DAt I X Y rp rk nr t pts par np z dy) →
      (∀ r, inF (wrB I X Y rp rk nr t pts par np s1 s2 sa sb sc se nc dy z) z w j = some r → ∀ K' I' L', KD K K' → Fz (gS K) I I' → Q (some (.int r)) K' I' L') →
      (inF (wrB I X Y rp rk nr t pts par np s1 s2 sa sb sc se nc dy z) z w j = none → ∀ K' I' L', KD K K' → Fz (gS K) I I' → Z n0 xX12_wrong (d + 7) 0 0 21 [(0, .ref (n0 + 0)), (1, .int dy), (3, .int (nI (z + 1)))] [] K' I' L' Q) →
      Z n0 xX12_wrong (d + 7) 0 0 36 [(0, .ref (n0 + 0)), (1, .int dy), (3, .int (nI z)), (4, .int (nI j))] [] K2 I2 L2 Q := by
  have h20 := hSK.1
  intro w
  induction w with
  | zero =>
    intro j K2 I2 L2 hj k2 f2 d2 hr hn2
    have f2g : Fz (gS K) I I2 := f1.trans (f2.mono (fun a j w => eS_g w))
    have kd := k1.trans k2.kd
    refine wp_X12_wrong_36 (hW.1.kd kd) ?_
    rw [f2g 0 13 (by unfold gS; omega), hn, ← nI_succ, ← nI_succ]
    exact iq (fun z => by have := q_lt.mp z; rw [q_nI (by omega), q_nI (by omega)] at this; omega) (hn2 rfl K2 I2 L2 kd f2g)
  | succ w ih =>
    intro j K2 I2 L2 hj k2 f2 d2 hr hn2
    have hs : j < ns := by omega
    have f2g : Fz (gS K) I I2 := f1.trans (f2.mono (fun a j w => eS_g w))
    have f2T : Fz (gT K) I I2 := f2g.mono (fun _ _ w => gT_s w)
    have kd := k1.trans k2.kd
    have w2 := hW.fr kd f2g
    have hSK2 := hSK.kd kd
    have e2 := hE.fe (K' := K2) (hW.2.2.2.1.kd k1) (k2.2.2 8 2 (by decide)) (by rw [eS_k k1]; exact f2)
    refine wp_X12_wrong_36 w2.1 ?_
    rw [f2g 0 13 (by unfold gS; omega), hn, q_cl (n := j) (by omega), ← nI_succ]
    refine ip (nI_lt (by omega) (by omega)) ⟨q_inn (by omega) (by omega), sid j, by rw [kd.2.2 21 j (by omega)]; exact (hSK.2.1 j hs).1, wp_X12_isWrong w2.1 (c12_sides (d := d) w2 (hB.fT f2T) e2 d2 (fun q g hq eg => DAt_b hW hB hq hz eg) hSK2 (hSD.fT hSK kd f2T) hs (fun e K3 I3 L3 k3 f3 d3 => ⟨_, rfl, w2.1.kd k3.kd, ip rfl ⟨_, rfl, w2.1.kd k3.kd, iq (by decide) ?_⟩⟩) (fun g1 g2 eg1 eg2 K3 I3 L3 k3 f3 d3 x12 x13 => ⟨_, rfl, w2.1.kd k3.kd, iq (by decide) ⟨?_, ?_, ?_⟩⟩))⟩
    · rw [eS_k kd] at f3
      have hw := wrB_n (s1 := s1) (s2 := s2) (sa := sa) (sb := sb) (sc := sc) (se := se) (nc := nc) (s := j) e
      refine hr _ ?_ K3 I3 L3 (kd.trans k3.kd) (f2g.trans (f3.mono (fun a j w => eS_g w)))
      show (if _ = true then _ else _) = _
      rw [if_pos hw]
    · have := (hSK2.2.1 j hs).2.2.1
      rw [k3.1]; omega
    · rw [k3.2.1]; exact (hSK2.2.1 j hs).2.2.2.1
    · rw [eS_k kd] at f3
      have f3g : Fz (gS K) I I3 := f2g.trans (f3.mono (fun a j w => eS_g w))
      have f3T : Fz (gT K) I I3 := f3g.mono (fun _ _ w => gT_s w)
      have kd3 := kd.trans k3.kd
      have hSK3 := hSK.kd kd3
      have hSD3 := hSD.fT hSK kd3 f3T
      have kl3 : KL K1 K3 := ⟨k3.1.trans k2.1, k3.2.1.trans k2.2.1, fun a j h => (k3.2.2 a j h).trans (k2.2.2 a j h)⟩
      have hw := wrB_s (sa := sa) (sb := sb) (sc := sc) (se := se) (nc := nc) (s := j) eg1 eg2
      rw [LenP_f f2T] at x12 x13
      have stepT : wrB I X Y rp rk nr t pts par np s1 s2 sa sb sc se nc dy z j = true → ∀ L4, OutW n0 d K3 I3 L4 z j Q := fun hb L4 => hr _ (by show (if _ = true then _ else _) = _; rw [if_pos hb]) K3 I3 L4 kd3 f3g
      have stepF : ¬ wrB I X Y rp rk nr t pts par np s1 s2 sa sb sc se nc dy z j = true → ∀ L4, Z n0 xX12_wrong (d + 7) 0 0 36 [(0, .ref (n0 + 0)), (1, .int dy), (3, .int (nI z)), (4, .int (nI (j + 1)))] [] K3 I3 L4 Q := fun hb L4 => ih (j + 1) K3 I3 L4 (by omega) kl3 (f2.trans f3) d3 (fun r er => hr r (by show (if _ = true then _ else _) = _; rw [if_neg hb]; exact er)) (fun er => hn2 (by show (if _ = true then _ else _) = _; rw [if_neg hb]; exact er))
      refine c8_isMet (d := d + 4) hSK3 hSD3 hs x12 x13 ⟨_, rfl, ?_⟩
      rw [MtS_f f3T]
      by_cases gm : MtS I j (LenP I g1 (s1 j) (pts (s1 j)) (sa j) (sb j)) (LenP I g2 (s2 j) (pts (s2 j)) (sc j) (se j)) = 0
      · exact ip gm ⟨_, rfl, hW.1.kd kd3, iq (by decide) (stepT (by rw [hw]; exact decide_eq_true (Or.inl gm)) _)⟩
      · refine iq gm (c8_firstLost (d := d + 4) hSK3 (hNt.fT hSK f3T) hs x12 x13 ⟨_, rfl, ?_⟩)
        rw [LoS_f f3T]
        by_cases gl : LoS I nc j (LenP I g1 (s1 j) (pts (s1 j)) (sa j) (sb j)) (LenP I g2 (s2 j) (pts (s2 j)) (sc j) (se j)) = -9
        · rw [if_pos gl]
          exact ⟨_, rfl, hW.1.kd kd3, ip rfl (stepF (by rw [hw]; intro q; have := of_decide_eq_true q; exact this.elim gm (fun w => w gl)) _)⟩
        · rw [if_neg gl]
          exact ⟨_, rfl, hW.1.kd kd3, iq (by decide) (stepT (by rw [hw]; exact decide_eq_true (Or.inr gl)) _)⟩
end WRG
