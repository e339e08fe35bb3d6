/-! the shortest laying on both sides -/
/-- the cloth, as numbers -/
def ClE (I : z_I) (cw ow st : Nat) : Prop := (I 26 0 = nI cw ∧ I 113 0 = nI cw ∧ 1 ≤ cw ∧ cw ≤ 24) ∧ (I 26 2 = nI ow ∧ I 113 2 = nI ow ∧ ow ≤ 1) ∧ (I 26 3 = nI st ∧ I 113 3 = nI st ∧ st ≤ 12) ∧ I 26 1 = I 113 1 ∧ 1 ≤ (I 113 1).toInt ∧ (I 113 1).toInt ≤ 500
noncomputable def stF (I : z_I) (X Y : Nat → List Int32) (rp rk : Nat → Nat) (nr t : Nat) (pts : Nat → Nat) (par : Nat → Option Nat) (np : Nat) (mp ms : Nat → Nat) (i : Nat) : Nat → Nat → Bool := (stO I X Y rp rk nr t pts par np mp ms i).getD (fun _ _ => false)
section LRF
variable {n0 d N : Nat} {K K' : z_K} {I I' : z_I} {L : z_L} {np nr nb na t : Nat} {pid pts rid rp rk ln cx cy bid m mp ms : Nat → Nat} {par : Nat → Option Nat} {X Y : Nat → List Int32} {A : Int32 → Int32 → Option (Int32 × Int32)} {i cw ow st : Nat} {F : Nat → Nat → Nat → Bool}
theorem ClE.fT (h : ClE I cw ow st) (hI : Fz (gT K) I I') : ClE I' cw ow st := by
  unfold ClE
  rw [hI 26 0 (by unfold gT gS; omega), hI 26 1 (by unfold gT gS; omega), hI 26 2 (by unfold gT gS; omega), hI 26 3 (by unfold gT gS; omega), hI 113 0 (by unfold gT gS; omega), hI 113 1 (by unfold gT gS; omega), hI 113 2 (by unfold gT gS; omega), hI 113 3 (by unfold gT gS; omega)]
  exact h
theorem rf_gX {k : Nat} {v : Int32} (h : Fz (gX K) I I') : Fz (gT K) I (zI I' 1 k v) := (h.mono (fun _ _ z => gX_T z)).z (Or.inr (Or.inl rfl))
theorem rf_lateX {k : Nat} {I2 I4 : z_I} (h1 : Fz (gX K) I I2) (h2 : Fz (gX K) (zI I2 1 k (I2 1 k + 1)) I4) : Fz (gX K) (rfI I k) (zI I4 75 k (I4 75 k + 1)) := by
  intro a j hn
  unfold rfI
  by_cases e : a = 75
  · subst e
    by_cases e : j = k
    · subst e
      rw [zI_s, zI_s, h2 75 j (by unfold gX gS; omega), zI_r (by omega), h1 75 j (by unfold gX gS; omega)]
    · rw [zI_d (by omega), zI_d (by omega), h2 75 j (by unfold gX gS; omega), zI_r (by omega), zI_r (by omega), h1 75 j (by unfold gX gS; omega)]
  · rw [zI_r e, zI_r e, h2 a j hn]
    by_cases e1 : a = 1
    · subst e1
      by_cases e2 : j = k
      · subst e2; rw [zI_s, zI_s, h1 1 j hn]
      · rw [zI_d (by omega), zI_d (by omega), h1 1 j hn]
    · rw [zI_r e1, zI_r e1, h1 a j hn]
theorem lyQ_X {a j : Nat} (h : lyQ a j) : gX K a j := Or.inr (by unfold lyQ at h; omega)
theorem lmQ_X {a j : Nat} (h : lmQ a j) : gX K a j := Or.inr (by unfold lmQ at h; omega)
theorem LyC_of (hC : CLay K) (hN : N ≤ 4) (hn : I 25 4 = nI N) (hcl : ClE I cw ow st) (hS : ∀ i, i < N → 0 < (fcA (F i) 24).1 ∧ ShC I (36 + 3 * i) (F i)) : LyC K I (lyM F cw ow st) N := by
  obtain ⟨⟨c1, _, c3, c4⟩, ⟨c5, _, c7⟩, ⟨c8, _, c10⟩, _⟩ := hcl
  refine ⟨hC, lyM_g hN (fun i hi => (hS i hi).1) ⟨c3, c4⟩ c7 c10, hn, ⟨c1, c5, c8⟩, fun i hi => ?_⟩
  obtain ⟨s1, s2⟩ := hS i hi
  obtain ⟨sh, s29⟩ := ShL_i hC (show i < 4 by omega)
  obtain ⟨a1, a2, a3, a4⟩ := s2.2 s1
  refine ⟨s29, sh, a1, a2, fun t ht k hk q hq => ?_⟩
  show _ = (if t = 0 then shB (F i) else shT (F i)) k q
  have ht' : t = 0 ∨ t = 1 := by omega
  rcases ht' with e | e
  · subst e; exact a3 k hk q hq
  · subst e; exact a4 k hk q hq
theorem LyM_of (hM : MLay K) (hN : N ≤ 4) (hn : I 59 89 = nI N) (hcl : ClE I cw ow st) (hS : ∀ i, i < N → MkC I i (F i)) (hT : ∀ i, i < N → ∀ t, t ≤ 1 → ∀ k, k < 24 → ∀ q, q < 32 → tb (I 130 (48 * i + 24 * t + k)) q = tnB (F i) t k q) : LyM K I (lyM F cw ow st) N := by
  obtain ⟨⟨_, c2, c3, c4⟩, ⟨_, c6, c7⟩, ⟨_, c9, c10⟩, _⟩ := hcl
  exact ⟨hM, lyM_g hN (fun i hi => (hS i hi).1) ⟨c3, c4⟩ c7 c10, hn, ⟨c2, c6, c9⟩, fun i hi => ⟨(hS i hi).2.2.1, (hS i hi).2.2.2.1, hT i hi⟩⟩
theorem MkC.fz {f : Nat → Nat → Bool} {S : Nat → Nat → Prop} (h : MkC I i f) (hI : Fz S I I') (hS : ∀ a j, 119 ≤ a → a ≤ 122 → ¬ S a j) : MkC I' i f := h.fr (hI 122 i (hS _ _ (by omega) (by omega))) (hI 120 i (hS _ _ (by omega) (by omega))) (hI 121 i (hS _ _ (by omega) (by omega))) (fun k _ => hI 119 _ (hS _ _ (by omega) (by omega)))
theorem c12_layingRefused {Q : z_R} (hW : Wd K I np nr nb na t pid pts rid rp rk ln cx cy bid m par X Y A) (hB : WdB I np A) (hMk : MkD K I N np pid mp ms) (hcl : ClE I cw ow st)
    (hz : N = 0 → Q (some (.int (-5))) K I L)
    (h0 : ∀ K' I' L', KD K K' → Fz (gX K) I I' → 0 < N → (∃ i, i < N ∧ stO I X Y rp rk nr t pts par np mp ms i = none) → Q (some (.int (-7))) K' I' L')
    (h1 : ∀ K' I' L', KD K K' → Fz (gX K) I I' → 0 < N → (∀ i, i < N → stO I X Y rp rk nr t pts par np mp ms i ≠ none) → LyC K' I' (lyM (stF I X Y rp rk nr t pts par np mp ms) cw ow st) N → (∀ i, i < N → I' (36 + 3 * i) 4 = nI (fcA (stF I X Y rp rk nr t pts par np mp ms i) 24).1) → I' 25 10 = nI (lyR (lyM (stF I X Y rp rk nr t pts par np mp ms) cw ow st) N).1 → PlB I' N (lyR (lyM (stF I X Y rp rk nr t pts par np mp ms) cw ow st) N) → Q (some (.int (if (lyR (lyM (stF I X Y rp rk nr t pts par np mp ms) cw ow st) N).1 < 97 then 0 else -3))) K' I' L') :
    RM n0 xX12_layingRefused (d + 9) 0 0 [.ref (n0 + 0)] K I L Q := by
  have hN4 := hMk.1
  refine wp_X12_layingRefused hW.1 ?_
  rw [hMk.2.1]
  by_cases g : N = 0
  · exact ip (by rw [g]; rfl) (hz g)
  · refine iq (fun z => g ((q_ni (b := 0) (by omega) (by omega)).mp z)) (c12_shapesStand (d := d + 3) hW hB hMk hcl.2.2.2 (fun K1 I1 L1 k1 f1 e => ⟨_, rfl, hW.1.kd k1, ip rfl (h0 K1 I1 L1 k1 f1 (by omega) e)⟩) (fun K1 I1 L1 k1 f1 e => ⟨_, rfl, hW.1.kd k1, iq (by decide) ?_⟩))
    have f1T : Fz (gT K) I I1 := f1.mono (fun _ _ z => gX_T z)
    have e' : ∀ i, i < N → stO I X Y rp rk nr t pts par np mp ms i ≠ none ∧ 0 < (fcA (stF I X Y rp rk nr t pts par np mp ms i) 24).1 ∧ ShC I1 (36 + 3 * i) (stF I X Y rp rk nr t pts par np mp ms i) := fun i hi => by
      obtain ⟨f, s1, s2, s3⟩ := e i hi
      have : stF I X Y rp rk nr t pts par np mp ms i = f := by unfold stF; rw [s1]; rfl
      rw [this, s1]
      exact ⟨by simp, s2, s3⟩
    have hL := LyC_of (F := stF I X Y rp rk nr t pts par np mp ms) (hW.1.kd k1) hN4 (hMk.fT k1 f1T).2.1 (hcl.fT f1T) (fun i hi => (e' i hi).2)
    have dd : ∀ {Q : z_q}, RM0 n0 xX4_findShortest ((4 - N + d) + N + 4) [.ref (n0 + 25)] K1 I1 L1 Q → RM0 n0 xX4_findShortest (d + 8) [.ref (n0 + 25)] K1 I1 L1 Q := fun h => by
      rw [show (4 - N + d) + N + 4 = d + 8 by omega] at h
      exact h
    refine dd (c4_findShortest hL (fun I2 f2 b2 B2 => ⟨_, rfl, ?_⟩))
    have := h1 K1 I2 L1 k1 (f1.trans (f2.mono (fun _ _ z => lyQ_X z))) (by omega) (fun i hi => (e' i hi).1) (hL.fr f2) (fun i hi => by rw [f2 _ 4 (by unfold lyQ; omega)]; exact (e' i hi).2.2.1) b2 B2
    have ev : (if (if (lyR (lyM (stF I X Y rp rk nr t pts par np mp ms) cw ow st) N).1 < 97 then (1 : Int32) else 0) = 0 then (-3 : Int32) else 0) = if (lyR (lyM (stF I X Y rp rk nr t pts par np mp ms) cw ow st) N).1 < 97 then 0 else -3 := by
      split
      · rw [if_neg (by decide)]
      · rw [if_pos rfl]
    rw [ev]
    exact this
theorem c13_shortestOr {Q : z_q} (hW : Wd K I np nr nb na t pid pts rid rp rk ln cx cy bid m par X Y A) (hB : WdB I np A) (hMk : MkD K I N np pid mp ms) (hcl : ClE I cw ow st)
    (hz : N = 0 → Q (some (.int (-5))) I L)
    (h0 : ∀ I' L', Fz (gX K) I I' → 0 < N → (∃ i, i < N ∧ stO I X Y rp rk nr t pts par np mp ms i = none) → Q (some (.int (-7))) I' L')
    (h1 : ∀ I' L', Fz (gX K) I I' → 0 < N → (∀ i, i < N → stO I X Y rp rk nr t pts par np mp ms i ≠ none) → (∀ i, i < N → I' 122 i = nI (fcA (stF I X Y rp rk nr t pts par np mp ms i) 24).1) → PlR I' N (lyR (lyM (stF I X Y rp rk nr t pts par np mp ms) cw ow st) N) → Q (some (.int (if (lyR (lyM (stF I X Y rp rk nr t pts par np mp ms) cw ow st) N).1 < 97 then nI (lyR (lyM (stF I X Y rp rk nr t pts par np mp ms) cw ow st) N).1 else -3))) I' L') :
    RM0 n0 xX13_shortestOr (d + 12) [.ref (n0 + 59)] K I L Q := by
  have hN4 := hMk.1
  have hM := hW.2.1
  refine wp_X13_shortestOr hM ?_
  rw [hMk.2.2.1]
  by_cases g : N = 0
  · exact ip (by rw [g]; rfl) (hz g)
  · refine iq (fun z => g ((q_ni (b := 0) (by omega) (by omega)).mp z)) (c13_findMarker (d := d) hW hB hMk hcl.2.2.2.2 (fun I1 L1 f1 e => ⟨_, rfl, ip rfl (h0 I1 L1 f1 (by omega) e)⟩) (fun I1 L1 f1 e => ⟨_, rfl, iq (by decide) ?_⟩))
    have f1T : Fz (gT K) I I1 := f1.mono (fun _ _ z => gX_T z)
    have e' : ∀ i, i < N → stO I X Y rp rk nr t pts par np mp ms i ≠ none ∧ MkC I1 i (stF I X Y rp rk nr t pts par np mp ms i) := fun i hi => by
      obtain ⟨f, s1, s2⟩ := e i hi
      have : stF I X Y rp rk nr t pts par np mp ms i = f := by unfold stF; rw [s1]; rfl
      rw [this, s1]
      exact ⟨by simp, s2⟩
    have h89 : I1 59 89 = nI N := (hMk.fT KD.rf f1T).2.2.1
    refine wp_X13_findShortest hM (c13_findTurned (d := d + 9) (F := stF I X Y rp rk nr t pts par np mp ms) hM hN4 h89 (fun i hi => (e' i hi).2) (fun I2 f2 t2 => ⟨rfl, ?_⟩))
    have f2X : Fz (gX K) I I2 := f1.trans (f2.mono (fun a j z => Or.inr (by omega)))
    have f2T : Fz (gT K) I I2 := f2X.mono (fun _ _ z => gX_T z)
    have m2 : ∀ i, i < N → MkC I2 i (stF I X Y rp rk nr t pts par np mp ms i) := fun i hi => (e' i hi).2.fz f2 (fun a j x y => by omega)
    have hL := LyM_of (F := stF I X Y rp rk nr t pts par np mp ms) hM hN4 (by rw [f2 59 89 (by omega)]; exact h89) (hcl.fT f2T) m2 t2
    refine c13_fs8 (d := d + 9) hL (by omega) (fun I3 f3 B3 => ⟨_, rfl, ?_⟩)
    have := h1 I3 L1 (f2X.trans (f3.mono (fun _ _ z => lmQ_X z))) (by omega) (fun i hi => (e' i hi).1) (fun i hi => by rw [f3 122 i (by unfold lmQ; omega)]; exact (m2 i hi).2.1) B3
    have hle : (lyR (lyM (stF I X Y rp rk nr t pts par np mp ms) cw ow st) N).1 ≤ 97 := dfs_le N (fun _ => false) (fun _ _ => false) 0 (fun _ => 0) (97, fun _ => 0)
    have ev : (if bsV (lyR (lyM (stF I X Y rp rk nr t pts par np mp ms) cw ow st) N) < 0 then (-3 : Int32) else bsV (lyR (lyM (stF I X Y rp rk nr t pts par np mp ms) cw ow st) N)) = if (lyR (lyM (stF I X Y rp rk nr t pts par np mp ms) cw ow st) N).1 < 97 then nI (lyR (lyM (stF I X Y rp rk nr t pts par np mp ms) cw ow st) N).1 else -3 := by
      unfold bsV
      split
      · rw [if_neg (fun z => by have := (q_nlt (b := 0) (by omega) (by omega)).mp z; omega)]
      · rw [if_pos (by decide)]
    rw [ev]
    exact this
theorem stF_f (hI : Fz (gT K) I I') : stF I' X Y rp rk nr t pts par np mp ms = stF I X Y rp rk nr t pts par np mp ms := funext fun i => by unfold stF; rw [stO_f hI]
/-- the same, with what is so of the state at the start -/
theorem c13_shOr {Q : z_q} {I1 : z_I} (hW : Wd K I np nr nb na t pid pts rid rp rk ln cx cy bid m par X Y A) (hB : WdB I np A) (hMk : MkD K I N np pid mp ms) (hcl : ClE I cw ow st) (hk : KD K K') (hf : Fz (gT K) I I1)
    (hz : N = 0 → Q (some (.int (-5))) I1 L)
    (h0 : ∀ I' L', Fz (gX K) I1 I' → 0 < N → (∃ i, i < N ∧ stO I X Y rp rk nr t pts par np mp ms i = none) → Q (some (.int (-7))) I' L')
    (h1 : ∀ I' L', Fz (gX K) I1 I' → 0 < N → (∀ i, i < N → stO I X Y rp rk nr t pts par np mp ms i ≠ none) → (∀ i, i < N → I' 122 i = nI (fcA (stF I X Y rp rk nr t pts par np mp ms i) 24).1) → PlR I' N (lyR (lyM (stF I X Y rp rk nr t pts par np mp ms) cw ow st) N) → Q (some (.int (if (lyR (lyM (stF I X Y rp rk nr t pts par np mp ms) cw ow st) N).1 < 97 then nI (lyR (lyM (stF I X Y rp rk nr t pts par np mp ms) cw ow st) N).1 else -3))) I' L') :
    RM0 n0 xX13_shortestOr (d + 12) [.ref (n0 + 59)] K' I1 L Q := by
  refine c13_shortestOr (hW.fT hk hf) (hB.fT hf) (hMk.fT hk hf) (hcl.fT hf) hz (fun I2 L2 f2 z e => ?_) (fun I2 L2 f2 z e c p => ?_)
  · rw [gX_k hk] at f2
    obtain ⟨i, hi, e⟩ := e
    rw [stO_f hf] at e
    exact h0 I2 L2 f2 z ⟨i, hi, e⟩
  · rw [gX_k hk] at f2
    rw [stF_f hf] at c p ⊢
    exact h1 I2 L2 f2 z (fun i hi => by rw [← stO_f hf]; exact e i hi) c p
end LRF
