section FMK
variable {n0 d N : Nat} {K K' : z_K} {I I' : z_I} {L : z_L} {Q : z_q} {np nr nb na t : Nat} {pid pts rid rp rk ln cx cy bid m mp ms : Nat → Nat} {par : Nat → Option Nat} {X Y : Nat → List Int32} {A : Int32 → Int32 → Option (Int32 × Int32)} {i : Nat} {f : Nat → Nat → Bool}
/-- what findCells leaves, said as the marker keeps it -/
theorem fcR_h (h : fcR I f) (hc : 0 < (fcA f 24).1) : I 59 84 = nI (shW f) ∧ I 59 85 = nI (shH f) ∧ ∀ k, k < 24 → ∀ q, q < 32 → tb (I 114 k) q = shB f k q := by
  obtain ⟨C, c1, c2, c3, c4⟩ := h hc
  have b := sh_b hc
  have ar : ∀ a b : Nat, a ≤ b + 1 → nI b + (1 - nI a) = nI (b + 1 - a) := fun a b hab => by
    have := nI_sb (a := a) (b := b + 1 - a)
    rw [show a + (b + 1 - a) = b + 1 by omega, nI_succ] at this
    rw [← this]
    simp [Int32.sub_eq_add_neg, Int32.add_assoc]
  refine ⟨by rw [c3, ar _ _ (by omega)]; rfl, by rw [c4, ar _ _ (by omega)]; rfl, fun k hk q hq => ?_⟩
  rw [c2 k hk]
  unfold hmC shB
  by_cases y : k + (fcA f 24).2.1 < 24
  · rw [if_pos y, tb_sar (by omega) hq, decide_eq_true y, Bool.true_and]
    by_cases y2 : (fcA f 24).2.2.1 + q < 32
    · rw [if_pos y2, c1 _ y _ y2, Nat.add_comm q]
    · rw [if_neg y2, c1 _ y _ (by omega), decide_eq_false (show ¬ q + (fcA f 24).2.2.1 < 24 by omega)]; rfl
  · rw [if_neg y, tb_0, decide_eq_false y, Bool.false_and]
theorem c13_fm111 {a1 : Int32} (hM : MLay K) (hi : i < 4)
    (h : ∀ I', Fz (fun a j => a = 119 ∧ 24 * i ≤ j ∧ j < 24 * i + 24) I I' → (∀ k, k < 24 → I' 119 (24 * i + k) = I 114 k) → Z n0 xX13_findMarker (d + 1) 0 0 4 [(0, .ref (n0 + 59)), (1, .int a1), (2, .int (nI (i + 1)))] [] K I' L (z_q0 K Q)) :
    ∀ m k I1, k + m = 24 → Fz (fun a j => a = 119 ∧ 24 * i ≤ j ∧ j < 24 * i + 24) I I1 → (∀ q, q < k → I1 119 (24 * i + q) = I 114 q) → Z n0 xX13_findMarker (d + 1) 0 0 111 [(0, .ref (n0 + 59)), (1, .int a1), (2, .int (nI i)), (3, .int (nI k))] [] K I1 L (z_q0 K Q) := by
  intro m
  induction m with
  | zero =>
    intro k I1 hk f1 v1
    have : k = 24 := by omega
    subst this
    refine wp_X13_findMarker_111 hM (iq (by decide) ?_)
    rw [← nI_succ]
    exact h I1 f1 v1
  | succ m ih =>
    intro k I1 hk f1 v1
    have x1 : (24 : Int32) * nI i = nI (24 * i) := q_nmul (a := 24)
    refine wp_X13_findMarker_111 hM (ip (nI_lt (b := 24) (by omega) (by omega)) ?_)
    rw [x1, q_nadd, q_cl (n := k) (by omega), q_cl (n := 24 * i + k) (by omega), f1 114 _ (by omega), ← nI_succ]
    refine ⟨q_inn (by omega) (by omega), q_inn (by omega) (by omega), ih (k + 1) _ (by omega) (f1.z ⟨rfl, by omega, by omega⟩) (fun q hq => ?_)⟩
    by_cases e : q = k
    · subst e; exact zI_s
    · rw [zI_d (by omega)]; exact v1 q (by omega)
theorem MkC.fr (h : MkC I i f) (e1 : I' 122 i = I 122 i) (e2 : I' 120 i = I 120 i) (e3 : I' 121 i = I 121 i) (e4 : ∀ k, k < 24 → I' 119 (24 * i + k) = I 119 (24 * i + k)) : MkC I' i f := by
  obtain ⟨h0, h1, h2, h3, h4⟩ := h
  exact ⟨h0, by rw [e1]; exact h1, by rw [e2]; exact h2, by rw [e3]; exact h3, fun k hk q hq => by rw [e4 k hk]; exact h4 k hk q hq⟩
theorem c13_findMarker (hW : Wd K I np nr nb na t pid pts rid rp rk ln cx cy bid m par X Y A) (hB : WdB I np A) (hMk : MkD K I N np pid mp ms) (hst : 1 ≤ (I 113 1).toInt ∧ (I 113 1).toInt ≤ 500)
    (h0 : ∀ I' L', Fz (gX K) I I' → (∃ i, i < N ∧ stO I X Y rp rk nr t pts par np mp ms i = none) → Q (some (.int 0)) I' L')
    (h1 : ∀ I' L', Fz (gX K) I I' → (∀ i, i < N → ∃ f, stO I X Y rp rk nr t pts par np mp ms i = some f ∧ MkC I' i f) → Q (some (.int 1)) I' L') :
    RM0 n0 xX13_findMarker (d + 11) [.ref (n0 + 59)] K I L Q := by
  have hN4 := hMk.1
  have hM := hW.2.1
  have gx : ∀ {a j : Nat}, 119 ≤ a ∧ a ≤ 131 → gX K a j := fun h => Or.inr (by omega)
  have bad : (∃ i, i < N ∧ stO I X Y rp rk nr t pts par np mp ms i = none) → ∀ w i I1 L1, i + w = N → Fz (gX K) I I1 → Z n0 xX13_findMarker (d + 11) 0 0 4 [(0, .ref (n0 + 59)), (1, .int 0), (2, .int (nI i))] [] K I1 L1 (z_q0 K Q) := by
    intro hx w
    induction w with
    | zero =>
      intro i I1 L1 hi f1
      refine wp_X13_findMarker_4 hM ?_
      rw [f1 59 89 (by unfold gX gS; omega), hMk.2.2.1]
      exact iq (fun z => by have := (q_nlt (by omega) (by omega)).mp z; omega) ⟨Or.inl rfl, h0 I1 L1 f1 hx⟩
    | succ w ih =>
      intro i I1 L1 hi f1
      refine wp_X13_findMarker_4 hM ?_
      rw [f1 59 89 (by unfold gX gS; omega), hMk.2.2.1]
      refine ip (nI_lt (by omega) (by omega)) (ip rfl ⟨q_inn (by omega) (by omega), ?_⟩)
      refine c13_fm111 (d := d + 10) hM (show i < 4 by omega) (fun I2 f2 _ => ih (i + 1) I2 _ (by omega) ?_) 24 0 _ (by omega) Fz.rfl' (fun q hq => by omega)
      exact (((f1.z (gx (by omega))).z (gx (by omega))).z (gx (by omega))).trans (f2.mono (fun a j z => gx (by omega)))
  have lp : ∀ w i I1 L1, i + w = N → Fz (gX K) I I1 → (∀ j, j < i → ∃ f, stO I X Y rp rk nr t pts par np mp ms j = some f ∧ MkC I1 j f) → Z n0 xX13_findMarker (d + 11) 0 0 4 [(0, .ref (n0 + 59)), (1, .int 1), (2, .int (nI i))] [] K I1 L1 (z_q0 K Q) := by
    intro w
    induction w with
    | zero =>
      intro i I1 L1 hi f1 v1
      refine wp_X13_findMarker_4 hM ?_
      rw [f1 59 89 (by unfold gX gS; omega), hMk.2.2.1]
      exact iq (fun z => by have := (q_nlt (by omega) (by omega)).mp z; omega) ⟨Or.inr rfl, h1 I1 L1 f1 (fun j hj => v1 j (by omega))⟩
    | succ w ih =>
      intro i I1 L1 hi f1 v1
      have hiN : i < N := by omega
      have f1T : Fz (gT K) I I1 := f1.mono (fun _ _ z => gX_T z)
      have w1 := hW.fT KD.rf f1T
      have mk1 := hMk.fT KD.rf f1T
      obtain ⟨a1, a2, a3, a4, a5, a6⟩ := mk1.2.2.2 i hiN
      have e59 : I1 59 0 = I 59 0 := f1T 59 0 (by unfold gT gS; omega)
      refine wp_X13_findMarker_4 hM ?_
      rw [mk1.2.2.1]
      refine ip (nI_lt (by omega) (by omega)) (iq (by decide) ⟨q_inn (by omega) (by omega), ?_⟩)
      rw [q_cl (by omega), a5, a6, e59]
      refine c13_drawA (d := d) w1 a1 (fun I2 L2 f2 hx => ⟨_, rfl, ?_⟩)
      have hx' : ∀ g, DAt I1 X Y rp rk nr t pts par np (ms i) (I 59 0) (mp i) = some g → ∀ k, k < pts (mp i) → I2 92 k = (g k).1 ∧ I2 93 k = (g k).2 := hx
      have eQ : bI (DrP (fun q => tabV I1 (nI q) (nI (ms i)) (I 59 0) t) (I1 81) X Y rp rk nr pts par (fun p k => I1 70 (10 * p + k)) (fun p k => I1 71 (10 * p + k)) (fun _ _ => (0, 0)) (nI (ms i)) (I 59 0) np (mp i) ≠ none) = bI (DAt I1 X Y rp rk nr t pts par np (ms i) (I 59 0) (mp i) ≠ none) := rfl
      rw [eQ]
      rw [DAt_f f1T] at hx' ⊢
      have f12 : Fz (gX K) I I2 := f1.trans (f2.mono (fun _ _ z => gX_s z))
      have f12T : Fz (gT K) I I2 := f12.mono (fun _ _ z => gX_T z)
      cases eD : DAt I X Y rp rk nr t pts par np (ms i) (I 59 0) (mp i) with
      | none =>
        rw [bI_f (by simp)]
        have sO : stO I X Y rp rk nr t pts par np mp ms i = none := by unfold stO; rw [eD]
        refine ip rfl (ip rfl ?_)
        refine c13_fm111 (d := d + 10) hM (show i < 4 by omega) (fun I3 f3 _ => bad ⟨i, hiN, sO⟩ w (i + 1) I3 _ (by omega) ?_) 24 0 _ (by omega) Fz.rfl' (fun q hq => by omega)
        exact (((f12.z (gx (by omega))).z (gx (by omega))).z (gx (by omega))).trans (f3.mono (fun a j z => gx (by omega)))
      | some g =>
        rw [bI_t (by simp)]
        have hbg := DAt_b hW hB (hMk.2.2.2 i hiN).1 a2 eD
        have e117 : I2 117 i = nI (mp i) := by rw [f2 117 i (by unfold gS; omega)]; exact a5
        have e113 : I2 113 1 = I 113 1 := f12T 113 1 (by unfold gT gS; omega)
        have sO : stO I X Y rp rk nr t pts par np mp ms i = if ceW I g (mp i) (pts (mp i)) (I 113 1) = true then none else if (fcA (ceB I g (mp i) (pts (mp i)) (I 113 1)) 24).1 = 0 then none else some (ceB I g (mp i) (pts (mp i)) (I 113 1)) := by unfold stO; rw [eD]
        refine iq (by decide) ?_
        rw [e117]
        have nogo : ∀ I3 L3, Fz (gX K) I I3 → stO I X Y rp rk nr t pts par np mp ms i = none → Z n0 xX13_findMarker (d + 11) 0 0 111 [(0, .ref (n0 + 59)), (1, .int 0), (2, .int (nI i)), (3, .int (nI 0))] [] K I3 L3 (z_q0 K Q) := fun I3 L3 f3 s => c13_fm111 (d := d + 10) hM (show i < 4 by omega) (fun I4 f4 _ => bad ⟨i, hiN, s⟩ w (i + 1) I4 _ (by omega) (f3.trans (f4.mono (fun a j z => gx (by omega))))) 24 0 _ (by omega) Fz.rfl' (fun q hq => by omega)
        refine c13_findCells (d := d + 6) (g := g) (hW.fT KD.rf f12T) (hB.fT f12T) a1 (hx' g eD) hbg (by rw [e113]; exact hst.1) (by rw [e113]; have := hst.2; omega) (fun I3 f3 wb => ⟨_, rfl, ?_⟩) (fun I3 f3 wb fr => ⟨_, rfl, ?_⟩)
        · rw [e113] at wb
          have wb' : ceW I2 g (mp i) (pts (mp i)) (I 113 1) = true := wb
          rw [(ceB_f f12T).2] at wb'
          refine iq (by decide) ?_
          rw [zI_s, if_neg (by decide)]
          exact nogo _ _ ((((f12.trans (f3.mono (fun _ _ z => gX_s z))).z (gx (by omega))).z (gx (by omega))).z (gx (by omega))) (by rw [sO, if_pos wb'])
        · rw [e113] at wb fr ⊢
          have wb' : ceW I2 g (mp i) (pts (mp i)) (I 113 1) = false := wb
          have fr' : fcR I3 (ceB I2 g (mp i) (pts (mp i)) (I 113 1)) := fr
          have e17 : nI (fcA (clB (wyP I2 g (mp i) (pts (mp i))) (offN (cvP I2 (mp i)) (pts (mp i))) (vtN (I2 66 (mp i)) (offN (cvP I2 (mp i)) (pts (mp i)))) (I 113 1)) 24).1 = nI (fcA (ceB I g (mp i) (pts (mp i)) (I 113 1)) 24).1 := by rw [← (ceB_f (g := g) (p := mp i) (n := pts (mp i)) (s := I 113 1) f12T).1]; rfl
          rw [(ceB_f f12T).2] at wb'
          rw [(ceB_f f12T).1] at fr'
          rw [e17]
          have f13 : Fz (gX K) I I3 := f12.trans (f3.mono (fun _ _ z => gX_s z))
          have cb := (fcA_b (f := ceB I g (mp i) (pts (mp i)) (I 113 1)) 24 (Nat.le_refl _)).1
          generalize eF : ceB I g (mp i) (pts (mp i)) (I 113 1) = F at *
          refine iq (by decide) ?_
          rw [zI_s]
          by_cases gz : (fcA F 24).1 = 0
          · rw [gz, if_neg (by decide)]
            exact nogo _ _ (((f13.z (gx (by omega))).z (gx (by omega))).z (gx (by omega))) (by rw [sO, if_neg (by rw [wb']; decide), if_pos gz])
          · have sS : stO I X Y rp rk nr t pts par np mp ms i = some F := by rw [sO, if_neg (by rw [wb']; decide), if_neg gz]
            obtain ⟨r84, r85, r114⟩ := fcR_h fr' (by omega)
            rw [if_pos (by exact nI_lt (a := 0) (show 0 < (fcA F 24).1 by omega) (by omega))]
            refine c13_fm111 (d := d + 10) hM (show i < 4 by omega) (fun I4 f4 v4 => ?_) 24 0 _ (by omega) Fz.rfl' (fun q hq => by omega)
            refine ih (i + 1) I4 _ (by omega) ((((f13.z (gx (by omega))).z (gx (by omega))).z (gx (by omega))).trans (f4.mono (fun a j z => gx (by omega)))) (fun j hj => ?_)
            by_cases e : j = i
            · subst e
              refine ⟨F, sS, by omega, ?_, ?_, ?_, fun k hk q hq => ?_⟩
              · rw [f4 122 j (by omega), zI_r (by omega), zI_r (by omega), zI_s]
              · rw [f4 120 j (by omega), zI_r (by omega), zI_s]
                (repeat (first | rw [zI_r (by omega : (59 : Nat) ≠ 122)]))
                exact r84
              · rw [f4 121 j (by omega), zI_s]
                (repeat (first | rw [zI_r (by omega : (59 : Nat) ≠ 122)] | rw [zI_r (by omega : (59 : Nat) ≠ 120)]))
                exact r85
              · rw [v4 k hk, zI_r (by omega), zI_r (by omega), zI_r (by omega)]
                exact r114 k hk q hq
            · obtain ⟨f, s1, s2⟩ := v1 j (by omega)
              refine ⟨f, s1, s2.fr ?_ ?_ ?_ (fun k hk => ?_)⟩
              · rw [f4 122 j (by omega), zI_r (by omega), zI_r (by omega), zI_d (by omega), f3 122 j (by unfold gS; omega), f2 122 j (by unfold gS; omega)]
              · rw [f4 120 j (by omega), zI_r (by omega), zI_d (by omega), zI_r (by omega), f3 120 j (by unfold gS; omega), f2 120 j (by unfold gS; omega)]
              · rw [f4 121 j (by omega), zI_d (by omega), zI_r (by omega), zI_r (by omega), f3 121 j (by unfold gS; omega), f2 121 j (by unfold gS; omega)]
              · rw [f4 119 _ (by omega), zI_r (by omega), zI_r (by omega), zI_r (by omega), f3 119 _ (by unfold gS; omega), f2 119 _ (by unfold gS; omega)]
  exact wp_X13_findMarker hM (lp N 0 I L (by omega) Fz.rfl' (fun j hj => by omega))
end FMK
