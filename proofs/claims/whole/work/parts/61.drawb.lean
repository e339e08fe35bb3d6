def d78 (p a j : Nat) : Prop := (a = 11 ∨ a = 12) ∧ 10 * p ≤ j ∧ j < 10 * p + 10
section DOB
variable {n0 d : Nat} {K : z_K} {I I1 : z_I} {L : z_L} {Q : z_q} {np nr nb na t : Nat} {pid pts rid rp rk ln cx cy bid m : Nat → Nat} {par : Nat → Option Nat} {X Y : Nat → List Int32} {A : Int32 → Int32 → Option (Int32 × Int32)} {p k r : Nat} {ms ru : Nat → Int32} {f g : Nat → Int32 × Int32} {gx gy : Nat → Nat → Int32} {mv : Nat → Nat → Int32 × Int32} {sz dy : Int32} {sel : Nat → Option Nat} {blk : Option (Nat × (Nat → Int32 × Int32))}
theorem c2_dr78 (hW : Wd K I np nr nb na t pid pts rid rp rk ln cx cy bid m par X Y A) (hE : EnC K I np nb pid bid A ms ru gx gy mv sz dy) (hp : p < np) (hf : ∀ q, q < pts p → I 13 q = (g q).1 ∧ I 14 q = (g q).2)
    (h : ∀ I' L', Fz (d78 p) I I' → (∀ q, q < pts p → I' 11 (10 * p + q) = (finS gx gy mv sz p q (g q)).1 ∧ I' 12 (10 * p + q) = (finS gx gy mv sz p q (g q)).2) → Q none I' L') :
    ∀ w k I1 L1, k + w = pts p → Fz (d78 p) I I1 → (∀ q, q < k → I1 11 (10 * p + q) = (finS gx gy mv sz p q (g q)).1 ∧ I1 12 (10 * p + q) = (finS gx gy mv sz p q (g q)).2) → Z n0 xX2_drawOne (d + 3) 0 0 78 [(0, .ref (n0 + 8)), (1, .ref (n0 + pid p)), (2, .int 1), (3, .int (nI k))] [] K I1 L1 (z_q0 K Q) := by
  have hP := hW.2.2.2.1
  have hN := hW.2.2.2.2.1
  have hlt := hP.lt hp
  have hge := hP.ge hp
  have hnp := hP.n
  have hs := hP.s hp
  have hr := hP.r hp
  have hpt := (hN.2.2 p hp).2.2.2
  intro w
  induction w with
  | zero =>
    intro k I1 L1 hk hI hd
    have e2 : I1 (pid p) 2 = nI (pts p) := by rw [hI _ _ (by unfold d78; omega)]; exact (hN.2.2 p hp).1
    have hk' : k = pts p := by omega
    subst hk'
    refine wp_X2_drawOne_78 hW.1 (iq (by decide) ⟨by omega, hP.cls hp, ?_⟩)
    rw [e2]
    exact iq (fun z => by have := q_lt.mp z; omega) (h I1 L1 hI hd)
  | succ w ih =>
    intro k I1 L1 hk hI hd
    have hIg : Fz (gS K) I I1 := hI.mono (fun a j z => dS_g (by unfold d78 at z; unfold dS; omega))
    have hE1 := hE.fr (I1 := I1) hP rfl (hI.mono (fun a j z => by unfold d78 at z; unfold dS; omega))
    have e2 : I1 (pid p) 2 = nI (pts p) := by rw [hI _ _ (by unfold d78; omega)]; exact (hN.2.2 p hp).1
    have e0 : I1 (pid p) 0 = nI p := by rw [hI _ _ (by unfold d78; omega)]; exact (hW.2.2.2.2.2.1 p hp).1
    obtain ⟨gx1, gy1⟩ := hE1.2.2.2.2.1 p k hp (by omega)
    have e13 : I1 13 k = (g k).1 := by rw [hI _ _ (by unfold d78; omega)]; exact (hf k (by omega)).1
    have e14 : I1 14 k = (g k).2 := by rw [hI _ _ (by unfold d78; omega)]; exact (hf k (by omega)).2
    have nx := ih (k + 1)
    refine wp_X2_drawOne_78 hW.1 (iq (by decide) ⟨by omega, hP.cls hp, ?_⟩)
    rw [e2, e0, q_10j, q_cl (n := 10 * p + k) (by omega), q_cl (n := k) (by omega), hE1.2.1, ← nI_succ]
    refine ip (nI_lt (by omega) (by omega)) ⟨q_inn (by omega) (by omega), pid p + 2, hr.2.1, 10, by omega, hs.2.1, q_inn (by omega) (by omega), q_inn (by omega) (by omega), pid p + 3, hr.2.2.1, 10, by omega, hs.2.2.1, q_inn (by omega) (by omega), fun o ho => ?_⟩
    rw [zI_r (show pid p + 3 ≠ 11 by omega), gx1, gy1, e13, e14]
    rw [zI_r (show pid p ≠ 12 by omega), zI_r (show pid p ≠ 11 by omega), e0]
    have S0 : Fz (d78 p) I (zI (zI I1 11 (10 * p + k) ((g k).1 + gx p k * (sz - 5))) 12 (10 * p + k) ((g k).2 + gy p k * (sz - 5))) := (hI.z ⟨Or.inl rfl, by omega, by omega⟩).z ⟨Or.inr rfl, by omega, by omega⟩
    rcases hE1.2.2.2.2.2 with ⟨e8, hmv⟩ | ⟨b, hb, e8, hmv⟩
    · rw [e8] at ho
      rw [← ho]
      refine osn (nx _ L1 (by omega) S0 (fun q hq => ?_))
      by_cases e : q = k
      · subst e
        rw [zI_d (by omega), zI_s, zI_s]
        unfold finS
        rw [hmv, Int32.add_zero, Int32.add_zero]
        exact ⟨rfl, rfl⟩
      · rw [zI_d (by omega), zI_d (by omega), zI_d (by omega), zI_d (by omega)]; exact hd q (by omega)
    · rw [e8] at ho
      rw [← ho]
      have hB := hW.2.2.2.2.2.2.2.2.2.1
      have hA := hW.2.2.2.2.2.2.2.2.2.2.2.1
      have hlb := hB.lt hb
      have hA0 := hA.fr hB (S0.mono (fun a j z => dS_g (K := K) (by unfold d78 at z; unfold dS; omega)))
      refine oss ⟨by omega, hB.cls hb, c0_moveOf hB hA0 hb ⟨_, rfl, ?_⟩⟩
      rw [if_pos rfl]
      generalize hS : zI (zI I1 11 (10 * p + k) ((g k).1 + gx p k * (sz - 5))) 12 (10 * p + k) ((g k).2 + gy p k * (sz - 5)) = S at S0 hA0 ⊢
      have s11 : S 11 (10 * p + k) = (g k).1 + gx p k * (sz - 5) := by rw [← hS, zI_d (by omega), zI_s]
      have s12 : S 12 (10 * p + k) = (g k).2 + gy p k * (sz - 5) := by rw [← hS, zI_s]
      have sP : S (pid p) 0 = nI p := by rw [← hS, zI_r (by omega), zI_r (by omega)]; exact e0
      rw [s11, s12, zI_r (show pid p ≠ 11 by omega), sP]
      have S1 : Fz (d78 p) I (zI S 11 (10 * p + k) ((g k).1 + gx p k * (sz - 5) + (mvA A b p k).1)) := S0.z ⟨Or.inl rfl, by omega, by omega⟩
      have hA1 := hA.fr hB (S1.mono (fun a j z => dS_g (K := K) (by unfold d78 at z; unfold dS; omega)))
      refine c0_moveOf hB hA1 hb ⟨_, rfl, ?_⟩
      rw [if_neg (by decide)]
      refine nx _ L1 (by omega) (S1.z ⟨Or.inr rfl, by omega, by omega⟩) (fun q hq => ?_)
      by_cases e : q = k
      · subst e
        rw [zI_d (by omega), zI_s, zI_s]
        unfold finS
        rw [hmv]
        exact ⟨rfl, rfl⟩
      · rw [zI_d (by omega), zI_d (by omega), zI_d (by omega), zI_d (by omega), ← hS, zI_d (by omega), zI_d (by omega), zI_d (by omega), zI_d (by omega)]; exact hd q (by omega)
theorem c2_drawOne (hW : Wd K I np nr nb na t pid pts rid rp rk ln cx cy bid m par X Y A) (hE : EnC K I np nb pid bid A ms ru gx gy mv sz dy) (hD : DiC I np pts (DrP ms ru X Y rp rk nr pts par gx gy mv sz dy np)) (hp : p < np) (hpar : ∀ q, par p = some q → I 10 q ≠ 0)
    (h : ∀ I' L', Fz dS I I' → DiC I' np pts (DrP ms ru X Y rp rk nr pts par gx gy mv sz dy np) → I' 10 p ≠ 0 → (∀ q, q ≠ p → I' 10 q = I 10 q) → Q none I' L') : RM0 n0 xX2_drawOne (d + 3) [.ref (n0 + 8), .ref (n0 + pid p)] K I L Q := by
  have hP := hW.2.2.2.1
  have hN := hW.2.2.2.2.1
  have hBl := hW.2.2.2.2.2.1
  have hnp := hP.n
  have hpt := fun q hq => (hN.2.2 q hq).2.2.2
  have hb : ∀ q, q < np → ∀ b, par q = some b → b < q := fun q hq b e => ((hBl q hq).2.2.2 b e).1
  have deq := drw_eq (ms := ms) (X := X) (Y := Y) (sel := fun p k => selR rp rk ru p k dy nr) (pts := pts) (par := par) (fin := finS gx gy mv sz) hb hp rfl
  have others : ∀ I' : z_I, (∀ a j, ¬ (dS a j) → I' a j = I a j) → (∀ q, q ≠ p → I' 10 q = I 10 q) → (∀ a j, (a = 11 ∨ a = 12) → ¬ (10 * p ≤ j ∧ j < 10 * p + 10) → I' a j = I a j) → ∀ q, q < np → q ≠ p → I' 10 q = 0 ∨ (I' 10 q = 1 ∧ ∃ g, DrP ms ru X Y rp rk nr pts par gx gy mv sz dy np q = some g ∧ ∀ k, k < pts q → I' 11 (10 * q + k) = (g k).1 ∧ I' 12 (10 * q + k) = (g k).2) ∨ (I' 10 q = 2 ∧ DrP ms ru X Y rp rk nr pts par gx gy mv sz dy np q = none) := by
    intro I' _ h10 h11 q hq hne
    rw [h10 q hne]
    rcases hD q hq with e | ⟨e, g, eg, hg⟩ | e
    · exact Or.inl e
    · refine Or.inr (Or.inl ⟨e, g, eg, fun k hk => ?_⟩)
      have := hpt q hq
      rw [h11 11 _ (Or.inl rfl) (by omega), h11 12 _ (Or.inr rfl) (by omega)]
      exact hg k hk
    · exact Or.inr (Or.inr e)
  refine wp_X2_drawOne hW.1 (c2_dr4 (ms := ms) (ru := ru) (dy := dy) (gx := gx) (gy := gy) (mv := mv) (sz := sz) hW hE hD hp hpar rfl (fun e I' L' hI => ?_) (fun g e I' L' hI hg => ?_) (pts p) 0 (fun _ => (0, 0)) I L (by omega) rfl (fun q hq => absurd hq (by omega)) Fz.rfl')
  · have e' : DrP ms ru X Y rp rk nr pts par gx gy mv sz dy np p = none := by
      show drwS ms X Y (fun p k => selR rp rk ru p k dy nr) pts par (finS gx gy mv sz) np p = none
      exact deq.trans (congrArg (fun r : Option (Nat → Int32 × Int32) => match r with | none => none | some f => some (fun k => finS gx gy mv sz p k (f k))) e)
    have f0 : Fz dS I (zI I' 10 p 2) := (hI.mono (fun a j z => d34_d z)).z (by unfold dS; omega)
    have o10 : ∀ q, q ≠ p → zI I' 10 p 2 10 q = I 10 q := fun q hq => by rw [zI_d (by omega), hI _ _ (by unfold d34; omega)]
    refine h _ L' f0 (fun q hq => ?_) (by rw [zI_s]; decide) o10
    by_cases eq : q = p
    · subst eq
      exact Or.inr (Or.inr ⟨zI_s, e'⟩)
    · exact others _ f0 o10 (fun a j ha hj => by rw [zI_r (by omega), hI _ _ (by unfold d34; omega)]) q hq eq
  · have e' : DrP ms ru X Y rp rk nr pts par gx gy mv sz dy np p = some (fun k => finS gx gy mv sz p k (g k)) := by
      show drwS ms X Y (fun p k => selR rp rk ru p k dy nr) pts par (finS gx gy mv sz) np p = _
      exact deq.trans (congrArg (fun r : Option (Nat → Int32 × Int32) => match r with | none => none | some f => some (fun k => finS gx gy mv sz p k (f k))) e)
    have f0 : Fz dS I (zI I' 10 p 1) := (hI.mono (fun a j z => d34_d z)).z (by unfold dS; omega)
    have hW1 := hW.fr KD.rf (f0.mono (fun a j z => dS_g z))
    have hE1 := hE.fr hP rfl f0
    refine c2_dr78 (g := g) hW1 hE1 hp (fun q hq => by rw [zI_d (by omega), zI_d (by omega)]; exact hg q hq) (fun I2 L2 h2 hx => ?_) (pts p) 0 _ L' (by omega) Fz.rfl' (fun q hq => absurd hq (by omega))
    have f1 : Fz dS I I2 := f0.trans (h2.mono (fun a j z => by unfold d78 at z; unfold dS; omega))
    have p10 : I2 10 p = 1 := by rw [h2 _ _ (by unfold d78; omega), zI_s]
    have o10 : ∀ q, q ≠ p → I2 10 q = I 10 q := fun q hq => by rw [h2 _ _ (by unfold d78; omega), zI_d (by omega), hI _ _ (by unfold d34; omega)]
    refine h _ L2 f1 (fun q hq => ?_) (by rw [p10]; decide) o10
    by_cases eq : q = p
    · subst eq
      exact Or.inr (Or.inl ⟨p10, _, e', hx⟩)
    · exact others _ f1 o10 (fun a j ha hj => by rw [h2 _ _ (by unfold d78; omega), zI_r (by omega), hI _ _ (by unfold d34; omega)]) q hq eq
end DOB
