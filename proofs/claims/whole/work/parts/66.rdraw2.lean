def drO (a j : Nat) : Prop := d82 a j ∨ a = 92 ∨ a = 93 ∨ (a = 59 ∧ j = 56)
section RD2
variable {n0 d : Nat} {K : z_K} {I I1 : z_I} {L : z_L} {Q : z_q} {np nr nb na t : Nat} {pid pts rid rp rk ln cx cy bid m : Nat → Nat} {par : Nat → Option Nat} {X Y : Nat → List Int32} {A : Int32 → Int32 → Option (Int32 × Int32)} {p k r : Nat} {ms ru : Nat → Int32} {f g : Nat → Int32 × Int32} {mv : Nat → Nat → Int32 × Int32} {sz dy bo bg : Int32} {blk : Option (Nat × (Nat → Int32 × Int32))}
theorem drO_g {a j : Nat} (h : drO a j) : gS K a j := by
  rcases h with h | h | h | ⟨h, e⟩
  · exact d82_g h
  · subst h; exact g92 (by omega)
  · subst h; exact g92 (by omega)
  · subst h; exact g59 (by omega)
theorem drO_n {a j : Nat} (h1 : a ≠ 59) (h2 : a ≠ 86) (h3 : a ≠ 82) (h4 : a ≠ 83) (h5 : a ≠ 92) (h6 : a ≠ 93) : ¬ drO a j := by
  rintro (h | h | h | ⟨h, e⟩)
  · exact d82_n h1 h2 h3 h4 h
  · exact h5 h
  · exact h6 h
  · exact h1 h
theorem c13_on168 (hW : Wd K I np nr nb na t pid pts rid rp rk ln cx cy bid m par X Y A) (hp : p < np) (hg : ∀ q, q < pts p → I 82 q = (g q).1 ∧ I 83 q = (g q).2) (hbo : (bo = -1 ∧ ∀ p k, mv p k = (0, 0)) ∨ ∃ b, b < nb ∧ bo = nI b ∧ ∀ p k, mv p k = mvA A b p k)
    (h : ∀ I' L', Fz d92 I I' → (∀ q, q < pts p → I' 92 q = (finS (fun p k => I 70 (10 * p + k)) (fun p k => I 71 (10 * p + k)) mv sz p q (g q)).1 ∧ I' 93 q = (finS (fun p k => I 70 (10 * p + k)) (fun p k => I 71 (10 * p + k)) mv sz p q (g q)).2) → Q (some (.int 1)) (zI I' 59 56 (nI (pts p))) L') :
    ∀ w k I1 L1, k + w = pts p → Fz d92 I I1 → (∀ q, q < k → I1 92 q = (finS (fun p k => I 70 (10 * p + k)) (fun p k => I 71 (10 * p + k)) mv sz p q (g q)).1 ∧ I1 93 q = (finS (fun p k => I 70 (10 * p + k)) (fun p k => I 71 (10 * p + k)) mv sz p q (g q)).2) → Z n0 xX13_drawOne (d + 9) 0 0 168 [(0, .ref (n0 + 59)), (1, .int (nI p)), (2, .int sz), (4, .int bo), (6, .int 1), (7, .int (nI k))] [] K I1 L1 (z_q0 K Q) := by
  have hM := hW.2.1
  have hnp := hW.2.2.2.1.n
  have hN := hW.2.2.2.2.1
  have hpt := (hN.2.2 p hp).2.2.2
  intro w
  induction w with
  | zero =>
    intro k I1 L1 hk hI hd
    have hk' : k = pts p := by omega
    subst hk'
    have e67 : I1 67 p = nI (pts p) := by rw [hI 67 p (by unfold d92; omega)]; exact (hN.2.2 p hp).2.1
    refine wp_X13_drawOne_168 hM ⟨q_inn (by omega) (by omega), ?_⟩
    rw [q_cl (by omega), e67]
    exact iq (fun z => by have := q_lt.mp z; omega) ⟨Or.inr rfl, h I1 L1 hI hd⟩
  | succ w ih =>
    intro k I1 L1 hk hI hd
    have e67 : I1 67 p = nI (pts p) := by rw [hI 67 p (by unfold d92; omega)]; exact (hN.2.2 p hp).2.1
    have e82 : I1 82 k = (g k).1 := by rw [hI 82 k (by unfold d92; omega)]; exact (hg k (by omega)).1
    have e83 : I1 83 k = (g k).2 := by rw [hI 83 k (by unfold d92; omega)]; exact (hg k (by omega)).2
    have e70 : I1 70 (10 * p + k) = I 70 (10 * p + k) := hI 70 _ (by unfold d92; omega)
    have e71 : I1 71 (10 * p + k) = I 71 (10 * p + k) := hI 71 _ (by unfold d92; omega)
    refine wp_X13_drawOne_168 hM ⟨q_inn (by omega) (by omega), ?_⟩
    rw [q_cl (n := p) (by omega), e67, q_j10, q_cl (n := k) (by omega), q_cl (n := 10 * p + k) (by omega), e82, e83, e70, e71]
    refine ip (nI_lt (by omega) (by omega)) (iq (by decide) ⟨q_inn (by omega) (by omega), q_inn (by omega) (by omega), ?_⟩)
    have S0 : Fz d92 I (zI (zI I1 92 k ((g k).1 + I 70 (10 * p + k) * (sz - 5))) 93 k ((g k).2 + I 71 (10 * p + k) * (sz - 5))) := (hI.z (Or.inl rfl)).z (Or.inr rfl)
    generalize hS : zI (zI I1 92 k ((g k).1 + I 70 (10 * p + k) * (sz - 5))) 93 k ((g k).2 + I 71 (10 * p + k) * (sz - 5)) = S at S0 ⊢
    have s92 : S 92 k = (g k).1 + I 70 (10 * p + k) * (sz - 5) := by rw [← hS, zI_d (by omega), zI_s]
    have s93 : S 93 k = (g k).2 + I 71 (10 * p + k) * (sz - 5) := by rw [← hS, zI_s]
    have so : ∀ q, q ≠ k → S 92 q = I1 92 q ∧ S 93 q = I1 93 q := fun q hq => by rw [← hS, zI_d (by omega), zI_d (by omega), zI_d (by omega), zI_d (by omega)]; exact ⟨rfl, rfl⟩
    rcases hbo with ⟨hb, hmv⟩ | ⟨b, hb, hbo, hmv⟩
    · subst hb
      have nx := ih (k + 1) S L1 (by omega) S0 (fun q hq => by
        by_cases e : q = k
        · subst e
          rw [s92, s93]
          unfold finS
          rw [hmv, Int32.add_zero, Int32.add_zero]
          exact ⟨rfl, rfl⟩
        · rw [(so q e).1, (so q e).2]; exact hd q (by omega))
      refine wp_X13_drawOne_249 hM ?_
      rw [← nI_succ]
      by_cases g0 : (0 : Int32) < S 59 49
      · exact ip g0 (ip (by decide) nx)
      · exact iq g0 nx
    · subst hbo
      have hWs := hW.fr KD.rf (S0.mono (fun a j z => g92 (K := K) (by unfold d92 at z; omega)))
      refine c13_on249 (B := ((g k).1 + I 70 (10 * p + k) * (sz - 5), (g k).2 + I 71 (10 * p + k) * (sz - 5))) hWs hp (by omega) hb ⟨s92, s93⟩ (fun I2 L2 f2 o2 h1 h2 => ?_) na 0 S L1 (by omega) Fz.rfl' (fun q hq => ⟨rfl, rfl⟩) ?_ ?_
      · refine ih (k + 1) I2 L2 (by omega) (S0.trans f2) (fun q hq => ?_)
        by_cases e : q = k
        · subst e
          rw [h1, h2]
          unfold finS
          rw [hmv]
          exact ⟨rfl, rfl⟩
        · rw [(o2 q e).1, (o2 q e).2, (so q e).1, (so q e).2]; exact hd q (by omega)
      · rw [s92]; exact (Int32.add_zero _).symm
      · rw [s93]; exact (Int32.add_zero _).symm
theorem c13_drawOne (hW : Wd K I np nr nb na t pid pts rid rp rk ln cx cy bid m par X Y A) (hm : ∀ q, q < 8 → I 84 q = ms q) (hru : I 81 = ru) (hp : p < np) (hb : BkR I bg blk) (hk3 : I 66 p ≠ 3 → blk = none) (hbo : (bo = -1 ∧ ∀ p k, mv p k = (0, 0)) ∨ ∃ b, b < nb ∧ bo = nI b ∧ ∀ p k, mv p k = mvA A b p k)
    (h0 : rawS ms X Y (fun k => selR rp rk ru p k dy nr) blk (pts p) = none → ∀ I' L', Fz drO I I' → Q (some (.int 0)) I' L')
    (h1 : ∀ g, rawS ms X Y (fun k => selR rp rk ru p k dy nr) blk (pts p) = some g → ∀ I' L', Fz drO I I' → I' 59 56 = nI (pts p) → (∀ q, q < pts p → I' 92 q = (finS (fun p k => I 70 (10 * p + k)) (fun p k => I 71 (10 * p + k)) mv sz p q (g q)).1 ∧ I' 93 q = (finS (fun p k => I 70 (10 * p + k)) (fun p k => I 71 (10 * p + k)) mv sz p q (g q)).2) → Q (some (.int 1)) I' L') :
    RM0 n0 xX13_drawOne (d + 9) [.ref (n0 + 59), .int (nI p), .int sz, .int dy, .int bo, .int bg] K I L Q := by
  have hM := hW.2.1
  have hnp := hW.2.2.2.1.n
  have hN := hW.2.2.2.2.1
  refine wp_X13_drawOne hM (c13_on6 (ms := ms) (ru := ru) (dy := dy) hW hm hru hp hb hk3 (fun I' L' hI => ⟨fun e => ?_, fun g e hg => ?_⟩) (pts p) 0 (fun _ => (0, 0)) I L (by omega) rfl (fun q hq => absurd hq (by omega)) Fz.rfl')
  · have hIo : Fz drO I (zI I' 59 56 (I' 67 p)) := (hI.mono (fun a j z => Or.inl z)).z (Or.inr (Or.inr (Or.inr ⟨rfl, rfl⟩)))
    refine wp_X13_drawOne_168 hM ⟨q_inn (by omega) (by omega), ?_⟩
    rw [q_cl (by omega)]
    by_cases g : (0 : Int32) < I' 67 p
    · exact ip g (ip rfl ⟨Or.inl rfl, h0 e _ _ hIo⟩)
    · exact iq g ⟨Or.inl rfl, h0 e _ _ hIo⟩
  · have hW1 := hW.fr KD.rf (hI.mono (fun a j z => d82_g z))
    have e70 : I' 70 = I 70 := funext fun q => hI 70 q (d82_n (by omega) (by omega) (by omega) (by omega))
    have e71 : I' 71 = I 71 := funext fun q => hI 71 q (d82_n (by omega) (by omega) (by omega) (by omega))
    refine c13_on168 (g := g) (mv := mv) (sz := sz) hW1 hp hg hbo (fun I2 L2 f2 hx => ?_) (pts p) 0 I' L' (by omega) Fz.rfl' (fun q hq => absurd hq (by omega))
    rw [e70, e71] at hx
    refine h1 g e _ L2 (((hI.mono (fun a j z => Or.inl z)).trans (f2.mono (S' := drO) (fun a j z => Or.inr (z.elim Or.inl (fun e => Or.inr (Or.inl e)))))).z (Or.inr (Or.inr (Or.inr ⟨rfl, rfl⟩)))) zI_s (fun q hq => ?_)
    rw [zI_r (by omega), zI_r (by omega)]
    exact hx q hq
end RD2
