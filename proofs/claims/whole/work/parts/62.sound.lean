def KL (K K' : z_K) : Prop := K'.1 = K.1 ∧ K'.2.1 = K.2.1 ∧ ∀ a j, a ≠ 15 → K'.2.2 a j = K.2.2 a j
section SND
variable {n0 d : Nat} {K K1 : z_K} {I I1 : z_I} {L : z_L} {Q : z_R} {np nr nb na t : Nat} {pid pts rid rp rk ln cx cy bid m : Nat → Nat} {par : Nat → Option Nat} {X Y : Nat → List Int32} {A : Int32 → Int32 → Option (Int32 × Int32)} {p k r : Nat} {ms ru : Nat → Int32} {gx gy : Nat → Nat → Int32} {mv : Nat → Nat → Int32 × Int32} {sz dy : Int32}
theorem KL.kd (h : KL K K1) : KD K K1 := ⟨h.1, h.2.1, fun a j n => h.2.2 a j (fun z => n (Or.inr z))⟩
theorem KL.rf : KL K K := ⟨rfl, rfl, fun _ _ _ => rfl⟩
theorem KL.z {i : Nat} {v : Option Nat} (h : KL K K1) : KL K (zR K1 15 i v) := ⟨h.1, h.2.1, fun a j n => by rw [zR_ne n]; exact h.2.2 a j n⟩
theorem DiC.st {D : Nat → Option (Nat → Int32 × Int32)} (h : DiC I np pts D) (hp : p < np) (hn : I 10 p ≠ 0) : (if ((I 10 p) : Int32) = 1 then (1 : Int32) else 0) = bI (D p ≠ none) := by
  rcases h p hp with e | ⟨e, g, eg, hg⟩ | ⟨e, eg⟩
  · exact absurd e hn
  · rw [e, if_pos rfl, bI_t (by rw [eg]; simp)]
  · rw [e, if_neg (by decide), bI_f (by rw [eg]; simp)]
theorem nI_dn {j : Nat} : nI (j + 1) + (-1) = nI j := by rw [← Int32.sub_eq_add_neg, nI_pred]
theorem c2_snd_dn (hW : Wd K I np nr nb na t pid pts rid rp rk ln cx cy bid m par X Y A) (hE : EnC K I np nb pid bid A ms ru gx gy mv sz dy) (hp : p < np) {tt : Nat} {lin : Nat → Nat} (hL1 : KL K K1) (h15 : ∀ k, k < tt → K1.2.2 15 k = some (pid (lin k)) ∧ lin k < np) (hch : ∀ k, k + 1 < tt → par (lin k) = some (lin (k + 1))) (h0 : 0 < tt → lin 0 = p) (htt : tt ≤ 16)
    (h : ∀ I' L', Fz dS I I' → DiC I' np pts (DrP ms ru X Y rp rk nr pts par gx gy mv sz dy np) → I' 10 p ≠ 0 → (∀ q, I 10 q ≠ 0 → I' 10 q ≠ 0) → Q (some (.int (bI (DrP ms ru X Y rp rk nr pts par gx gy mv sz dy np p ≠ none)))) K1 I' L') :
    ∀ j I1 L1, j < tt → Fz dS I I1 → DiC I1 np pts (DrP ms ru X Y rp rk nr pts par gx gy mv sz dy np) → (∀ b, par (lin j) = some b → I1 10 b ≠ 0) → (∀ q, I 10 q ≠ 0 → I1 10 q ≠ 0) → Z n0 xX2_sound (d + 4) 0 0 49 [(0, .ref (n0 + 8)), (1, .ref (n0 + pid p)), (4, .int (nI j))] [] K1 I1 L1 Q := by
  have hW1 : ∀ {I1}, Fz dS I I1 → Wd K1 I1 np nr nb na t pid pts rid rp rk ln cx cy bid m par X Y A := fun hI => hW.fr hL1.kd (hI.mono (fun a j z => dS_g z))
  have hE1 : ∀ {I1}, Fz dS I I1 → EnC K1 I1 np nb pid bid A ms ru gx gy mv sz dy := fun hI => hE.fr hW.2.2.2.1 (hL1.2.2 8 2 (by decide)) hI
  intro j
  induction j with
  | zero =>
    intro I1 L1 hj hI hD hpar hmo
    obtain ⟨e15, hlin⟩ := h15 0 hj
    have w1 := hW1 hI
    refine wp_X2_sound_49 w1.1 (iq (by decide) ⟨q_inn (by omega) (by omega), pid (lin 0), e15, c2_drawOne w1 (hE1 hI) hD hlin hpar (fun I2 L2 f2 d2 n2 o2 => ⟨rfl, ?_⟩)⟩)
    have mo2 : ∀ q, I 10 q ≠ 0 → I2 10 q ≠ 0 := fun q hq => if e : q = lin 0 then by rw [e]; exact n2 else by rw [o2 q e]; exact hmo q hq
    rw [h0 hj] at n2
    have w2 := hW1 (hI.trans f2)
    have hlt := w2.2.2.2.1.lt hp
    have hnp := w2.2.2.2.1.n
    have e0 := (w2.2.2.2.2.2.1 p hp).1
    refine wp_X2_sound_49 w2.1 (ip (by decide) ⟨by omega, w2.2.2.2.1.cls hp, ?_⟩)
    rw [e0, q_cl (by omega), d2.st hp n2]
    exact ⟨q_inn (by omega) (by omega), h I2 L2 (hI.trans f2) d2 n2 mo2⟩
  | succ j ih =>
    intro I1 L1 hj hI hD hpar hmo
    obtain ⟨e15, hlin⟩ := h15 (j + 1) hj
    have w1 := hW1 hI
    refine wp_X2_sound_49 w1.1 (iq (nI_pos (by omega)) ⟨q_inn (by omega) (by omega), pid (lin (j + 1)), by rw [q_cl (by omega)]; exact e15, c2_drawOne w1 (hE1 hI) hD hlin hpar (fun I2 L2 f2 d2 n2 o2 => ⟨rfl, ?_⟩)⟩)
    rw [nI_dn]
    refine ih I2 L2 (by omega) (hI.trans f2) d2 (fun b hb => ?_) (fun q hq => if e : q = lin (j + 1) then by rw [e]; exact n2 else by rw [o2 q e]; exact hmo q hq)
    rw [hch j (by omega)] at hb
    rw [← Option.some.inj hb]
    exact n2
theorem c2_snd_up (hW : Wd K I np nr nb na t pid pts rid rp rk ln cx cy bid m par X Y A) (hE : EnC K I np nb pid bid A ms ru gx gy mv sz dy) (hD : DiC I np pts (DrP ms ru X Y rp rk nr pts par gx gy mv sz dy np)) (hp : p < np)
    (h : ∀ K' I' L', KL K K' → Fz dS I I' → DiC I' np pts (DrP ms ru X Y rp rk nr pts par gx gy mv sz dy np) → I' 10 p ≠ 0 → (∀ q, I 10 q ≠ 0 → I' 10 q ≠ 0) → Q (some (.int (bI (DrP ms ru X Y rp rk nr pts par gx gy mv sz dy np p ≠ none)))) K' I' L') :
    ∀ q, q < np → ∀ (tt : Nat) (K1 : z_K) (lin : Nat → Nat), KL K K1 → tt + q ≤ p → (∀ k, k < tt → K1.2.2 15 k = some (pid (lin k)) ∧ lin k < np) → (∀ k, k + 1 < tt → par (lin k) = some (lin (k + 1))) → (0 < tt → lin 0 = p ∧ par (lin (tt - 1)) = some q) → (tt = 0 → q = p) → Z n0 xX2_sound (d + 4) 0 0 4 [(0, .ref (n0 + 8)), (1, .ref (n0 + pid p)), (2, .int (nI tt)), (3, .ref (n0 + pid q))] [] K1 I L Q := by
  have hnp := hW.2.2.2.1.n
  intro q
  induction q using Nat.strongRecOn with
  | ind q ih =>
    intro hq tt K1 lin hL1 htq h15 hch hpr h00
    have w1 := hW.fr hL1.kd Fz.rfl'
    have hP1 := w1.2.2.2.1
    have hlt := hP1.lt hq
    have hge := hP1.ge hq
    obtain ⟨e0, _, l3, l4⟩ := w1.2.2.2.2.2.1 q hq
    refine wp_X2_sound_4 (a3 := some (pid q)) w1.1 (oss (ip (nI_lt (b := 16) (by omega) (by omega)) ⟨by omega, hP1.cls hq, ?_⟩))
    rw [e0, q_cl (n := q) (by omega), q_cl (n := tt) (by omega)]
    refine ⟨q_inn (by omega) (by omega), ?_⟩
    by_cases g : I 10 q = 0
    · refine ip g ⟨q_inn (by omega) (by omega), by show pid q < K1.1; omega, hP1.cls hq, fun o ho => ?_⟩
      rw [zR_ne (by omega)] at ho
      rw [← nI_succ]
      have hL2 : KL K (zR K1 15 tt (some (pid q))) := hL1.z
      have n15 : ∀ k, k < tt + 1 → (zR K1 15 tt (some (pid q))).2.2 15 k = some (pid ((fun k => if k = tt then q else lin k) k)) ∧ (fun k => if k = tt then q else lin k) k < np := by
        intro k hk
        show _ = some (pid (if k = tt then q else lin k)) ∧ (if k = tt then q else lin k) < np
        by_cases e : k = tt
        · subst e; rw [if_pos rfl, zR_e]; exact ⟨rfl, hq⟩
        · rw [if_neg e, zR_o e]; exact h15 k (by omega)
      have nch : ∀ k, k + 1 < tt + 1 → par ((fun k => if k = tt then q else lin k) k) = some ((fun k => if k = tt then q else lin k) (k + 1)) := by
        intro k hk
        show par (if k = tt then q else lin k) = some (if k + 1 = tt then q else lin (k + 1))
        rw [if_neg (by omega)]
        by_cases e : k + 1 = tt
        · rw [if_pos e]
          have := (hpr (by omega)).2
          rw [show tt - 1 = k from by omega] at this
          exact this
        · rw [if_neg e]; exact hch k (by omega)
      have nl0 : (fun k => if k = tt then q else lin k) 0 = p := by
        show (if 0 = tt then q else lin 0) = p
        by_cases e : 0 = tt
        · rw [if_pos e]; exact h00 e.symm
        · rw [if_neg e]; exact (hpr (by omega)).1
      have ntop : (fun k => if k = tt then q else lin k) tt = q := if_pos rfl
      cases ep : par q with
      | none =>
        rw [(l3 ep).2] at ho
        rw [← ho]
        refine wp_X2_sound_4 (a3 := none) (w1.1.kd KD.z15) (osn ?_)
        rw [nI_pred]
        refine c2_snd_dn (lin := fun k => if k = tt then q else lin k) (tt := tt + 1) hW hE hp hL2 n15 nch (fun _ => nl0) (by omega) (fun I' L' a b c e => h _ I' L' hL2 a b c e) tt I L (by omega) Fz.rfl' hD (fun b hb => ?_) (fun _ z => z)
        rw [if_pos rfl, ep] at hb
        cases hb
      | some b =>
        obtain ⟨b1, b2, b3, b4⟩ := l4 b ep
        rw [b4] at ho
        rw [← ho]
        refine ih b b1 (by omega) (tt + 1) _ (fun k => if k = tt then q else lin k) hL2 (by omega) n15 nch (fun _ => ⟨nl0, ?_⟩) (fun z => absurd z (by omega))
        rw [Nat.add_sub_cancel, if_pos rfl]; exact ep
    · refine iq g ?_
      by_cases e : tt = 0
      · subst e
        have hqp := h00 rfl
        subst hqp
        refine wp_X2_sound_49 w1.1 (ip (by decide) ⟨by omega, hP1.cls hq, ?_⟩)
        rw [e0, q_cl (by omega), hD.st hq g]
        exact ⟨q_inn (by omega) (by omega), h K1 I L hL1 Fz.rfl' hD g (fun _ z => z)⟩
      · obtain ⟨u, rfl⟩ : ∃ u, tt = u + 1 := ⟨tt - 1, by omega⟩
        rw [nI_pred]
        refine c2_snd_dn (lin := lin) (tt := u + 1) hW hE hp hL1 h15 hch (fun z => (hpr z).1) (by omega) (fun I' L' a b c e => h _ I' L' hL1 a b c e) u I L (by omega) Fz.rfl' hD (fun b hb => ?_) (fun _ z => z)
        have := (hpr (by omega)).2
        rw [Nat.add_sub_cancel, hb] at this
        rw [Option.some.inj this]; exact g
theorem c2_sound (hW : Wd K I np nr nb na t pid pts rid rp rk ln cx cy bid m par X Y A) (hE : EnC K I np nb pid bid A ms ru gx gy mv sz dy) (hD : DiC I np pts (DrP ms ru X Y rp rk nr pts par gx gy mv sz dy np)) (hp : p < np)
    (h : ∀ K' I' L', KL K K' → Fz dS I I' → DiC I' np pts (DrP ms ru X Y rp rk nr pts par gx gy mv sz dy np) → I' 10 p ≠ 0 → (∀ q, I 10 q ≠ 0 → I' 10 q ≠ 0) → Q (some (.int (bI (DrP ms ru X Y rp rk nr pts par gx gy mv sz dy np p ≠ none)))) K' I' L') : RM n0 xX2_sound (d + 4) 0 0 [.ref (n0 + 8), .ref (n0 + pid p)] K I L Q :=
  wp_X2_sound hW.1 (c2_snd_up hW hE hD hp h p hp 0 K (fun _ => 0) KL.rf (by omega) (fun k hk => absurd hk (by omega)) (fun k hk => absurd hk (by omega)) (fun z => absurd z (by omega)) (fun _ => rfl))
end SND
