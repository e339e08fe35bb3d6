def d94 (a _j : Nat) : Prop := a = 94
section RD4
variable {n0 d : Nat} {K : z_K} {I I1 : z_I} {L : z_L} {Q : z_q} {np nr nb na t : Nat} {pid pts rid rp rk ln cx cy bid m : Nat → Nat} {par : Nat → Option Nat} {X Y : Nat → List Int32} {A : Int32 → Int32 → Option (Int32 × Int32)} {p k r : Nat} {ms ru : Nat → Int32} {mv : Nat → Nat → Int32 × Int32} {sz dy bo bg : Int32}
theorem c13_dr16 (hW : Wd K I np nr nb na t pid pts rid rp rk ln cx cy bid m par X Y A) (hp : p < np)
    (h : ∀ (c : Nat) (lin : Nat → Nat) (I' : z_I), 1 ≤ c → c ≤ 16 → Fz d94 I I' → (∀ k, k < c → I' 94 k = nI (lin k) ∧ lin k < np) → (∀ k, k + 1 < c → par (lin k) = some (lin (k + 1))) → lin 0 = p → par (lin (c - 1)) = none → Z n0 xX13_draw (d + 10) 0 0 54 [(0, .ref (n0 + 59)), (2, .int sz), (3, .int dy), (4, .int bo), (5, .int (nI c)), (7, .int 0)] [] K I' L (z_q0 K Q)) :
    ∀ q, q < np → ∀ (c : Nat) (lin : Nat → Nat) (I1 : z_I), 1 ≤ c → c + q ≤ p + 1 → Fz d94 I I1 → (∀ k, k < c → I1 94 k = nI (lin k) ∧ lin k < np) → (∀ k, k + 1 < c → par (lin k) = some (lin (k + 1))) → lin 0 = p → lin (c - 1) = q → Z n0 xX13_draw (d + 10) 0 0 16 [(0, .ref (n0 + 59)), (2, .int sz), (3, .int dy), (4, .int bo), (5, .int (nI c)), (6, .int (nI q))] [] K I1 L (z_q0 K Q) := by
  have hM := hW.2.1
  have hnp := hW.2.2.2.1.n
  have hBl := hW.2.2.2.2.2.1
  intro q
  induction q using Nat.strongRecOn with
  | ind q ih =>
    intro hq c lin I1 h1 hcq hI h94 hch h0 hl
    have e66 : I1 66 q = I 66 q := hI 66 q (by unfold d94; omega)
    have e68 : I1 68 q = I 68 q := hI 68 q (by unfold d94; omega)
    refine wp_X13_draw_16 hM ⟨q_inn (by omega) (by omega), ?_⟩
    rw [q_cl (n := q) (by omega), q_cl (n := c) (by omega), e66, e68, ← nI_succ]
    cases ep : par q with
    | none => exact iq ((hBl q hq).2.2.1 ep).1 (h c lin I1 h1 (by omega) hI h94 hch h0 (by rw [hl]; exact ep))
    | some b =>
      obtain ⟨b1, b2, b3, b4⟩ := (hBl q hq).2.2.2 b ep
      rw [b3]
      refine ip b2 ⟨q_inn (by omega) (by omega), ih b b1 (by omega) (c + 1) (fun k => if k = c then b else lin k) _ (by omega) (by omega) (hI.z rfl) (fun k hk => ?_) (fun k hk => ?_) ?_ ?_⟩
      · show _ = nI (if k = c then b else lin k) ∧ (if k = c then b else lin k) < np
        by_cases e : k = c
        · subst e; rw [if_pos rfl, zI_s]; exact ⟨rfl, by omega⟩
        · rw [if_neg e, zI_d (by omega)]; exact h94 k (by omega)
      · show par (if k = c then b else lin k) = some (if k + 1 = c then b else lin (k + 1))
        rw [if_neg (show ¬ k = c by omega)]
        by_cases e : k + 1 = c
        · rw [if_pos e, show k = c - 1 from by omega, hl]; exact ep
        · rw [if_neg e]; exact hch k (by omega)
      · show (if 0 = c then b else lin 0) = p
        rw [if_neg (by omega)]; exact h0
      · show (if c + 1 - 1 = c then b else lin (c + 1 - 1)) = b
        rw [if_pos (by omega)]
theorem d94_g {a j : Nat} (h : d94 a j) : gS K a j := g92 (by unfold d94 at h; omega)
theorem c13_drawG (hW : Wd K I np nr nb na t pid pts rid rp rk ln cx cy bid m par X Y A) (hp : p < np) (hbo : (bo = -1 ∧ ∀ p k, mv p k = (0, 0)) ∨ ∃ b, b < nb ∧ bo = nI b ∧ ∀ p k, mv p k = mvA A b p k)
    (h8 : ∀ I1, Fz (gS K) I I1 → ∀ k, k < 8 → ∀ L1, (∀ {Q : z_q}, Q (some (.int (ms k))) I1 L1 → (if bo < 0 then RM0 n0 xX13_tabledOn (d + 9) [.ref (n0 + 59), .int (nI k), .int sz, .int dy] K I1 L1 Q else RM0 n0 xX13_measuredOf (d + 9) [.ref (n0 + 59), .int bo, .int (nI k)] K I1 L1 Q)))
    (h : ∀ I' L', Fz dr4 I I' → (∀ g, DrP ms (I 81) X Y rp rk nr pts par (fun p k => I 70 (10 * p + k)) (fun p k => I 71 (10 * p + k)) mv sz dy np p = some g → ∀ k, k < pts p → I' 92 k = (g k).1 ∧ I' 93 k = (g k).2) → Q (some (.int (bI (DrP ms (I 81) X Y rp rk nr pts par (fun p k => I 70 (10 * p + k)) (fun p k => I 71 (10 * p + k)) mv sz dy np p ≠ none)))) I' L') :
    RM0 n0 xX13_draw (d + 10) [.ref (n0 + 59), .int (nI p), .int sz, .int dy, .int bo] K I L Q := by
  have hM := hW.2.1
  have hnp := hW.2.2.2.1.n
  refine wp_X13_draw hM (c13_dr16 hW hp (fun c lin I1 h1 h16 f1 h94 hch h0 htop => ?_) p hp 1 (fun _ => p) _ (by omega) (by omega) (Fz.rfl'.z rfl) (fun k hk => ?_) (fun k hk => absurd hk (by omega)) rfl rfl)
  · have f1g : Fz (gS K) I I1 := f1.mono (fun a j z => d94_g z)
    have lp := c13_dr54 (n0 := n0) (d := d) (K := K) (I := I1) (L := L) (Q := Q) (ms := ms) (bo := bo) (sz := sz) (dy := dy) (c := c) hM (fun k hk L1 {Q} z => h8 _ (f1g.trans (m84_f.mono (fun a j z => dr4_g z))) k hk L1 z) ?_ 8 0 (by omega)
    · rw [m84_0] at lp; exact lp
    obtain ⟨u, rfl⟩ : ∃ u, c = u + 1 := ⟨c - 1, by omega⟩
    rw [nI_pred]
    have f2 : Fz dr4 I (zI (m84 I1 ms 8) 59 56 0) := ((f1.mono (fun a j z => Or.inr (Or.inr z))).trans m84_f).z (Or.inl (Or.inr (Or.inr (Or.inr ⟨rfl, rfl⟩))))
    have hW2 := hW.fr KD.rf (f2.mono (fun a j z => dr4_g z))
    have e81 : zI (m84 I1 ms 8) 59 56 0 81 = I 81 := by rw [zI_r (by omega), m84_n (by omega)]; funext q; exact f1 81 q (by unfold d94; omega)
    have e70 : zI (m84 I1 ms 8) 59 56 0 70 = I 70 := by rw [zI_r (by omega), m84_n (by omega)]; funext q; exact f1 70 q (by unfold d94; omega)
    have e71 : zI (m84 I1 ms 8) 59 56 0 71 = I 71 := by rw [zI_r (by omega), m84_n (by omega)]; funext q; exact f1 71 q (by unfold d94; omega)
    have key := c13_dr112 (n0 := n0) (d := d) (Q := Q) (mv := mv) (bo := bo) (sz := sz) (dy := dy) (ms := ms) (c := u + 1) (lin := lin) hW2 (fun q hq => by rw [zI_r (by omega), m84_v, if_pos hq]) hp h16 (fun k hk => by rw [zI_r (by omega), m84_n (by omega)]; exact h94 k hk) hch h0 hbo (fun I' L' f' hx => ?_) u (zI (m84 I1 ms 8) 59 56 0) L 0 none (by omega) Fz.rfl' (Or.inl ⟨rfl, rfl⟩) ?_
    · exact key
    · rw [e81, e70, e71] at hx ⊢
      exact h I' L' (f2.trans (f'.mono (fun a j z => Or.inl z))) hx
    · unfold blkS
      rw [Nat.add_sub_cancel] at htop
      rw [htop]
  · rw [show (0 : Int32).toNatClampNeg = 0 from rfl, show k = 0 from by omega, zI_s]; exact ⟨rfl, hp⟩
theorem c13_drawA0 {s : Nat} (hW : Wd K I np nr nb na t pid pts rid rp rk ln cx cy bid m par X Y A) (hp : p < np)
    (h : ∀ I' L', Fz dr4 I I' → (∀ g, DrP (fun q => tabV I (nI q) (nI s) dy t) (I 81) X Y rp rk nr pts par (fun p k => I 70 (10 * p + k)) (fun p k => I 71 (10 * p + k)) (fun _ _ => (0, 0)) (nI s) dy np p = some g → ∀ k, k < pts p → I' 92 k = (g k).1 ∧ I' 93 k = (g k).2) → Q (some (.int (bI (DrP (fun q => tabV I (nI q) (nI s) dy t) (I 81) X Y rp rk nr pts par (fun p k => I 70 (10 * p + k)) (fun p k => I 71 (10 * p + k)) (fun _ _ => (0, 0)) (nI s) dy np p ≠ none)))) I' L') :
    RM0 n0 xX13_draw (d + 10) [.ref (n0 + 59), .int (nI p), .int (nI s), .int dy, .int (-1)] K I L Q := by
  refine c13_drawG (mv := fun _ _ => (0, 0)) hW hp (Or.inl ⟨rfl, fun _ _ => rfl⟩) (fun I1 f1 k hk L1 {Q} z => ip (by decide) ?_) h
  have w1 := hW.fr KD.rf f1
  refine c13_tabledOn w1.2.1 w1.2.2.2.2.2.2.2.2.2.2.2.2.2.1 w1.2.2.2.2.2.2.2.2.2.2.2.2.2.2.1 ?_
  rw [tabV_fr f1]
  exact z
theorem c13_drawA {s : Nat} (hW : Wd K I np nr nb na t pid pts rid rp rk ln cx cy bid m par X Y A) (hp : p < np)
    (h : ∀ I' L', Fz (gS K) I I' → (∀ g, DrP (fun q => tabV I (nI q) (nI s) dy t) (I 81) X Y rp rk nr pts par (fun p k => I 70 (10 * p + k)) (fun p k => I 71 (10 * p + k)) (fun _ _ => (0, 0)) (nI s) dy np p = some g → ∀ k, k < pts p → I' 92 k = (g k).1 ∧ I' 93 k = (g k).2) → Q (some (.int (bI (DrP (fun q => tabV I (nI q) (nI s) dy t) (I 81) X Y rp rk nr pts par (fun p k => I 70 (10 * p + k)) (fun p k => I 71 (10 * p + k)) (fun _ _ => (0, 0)) (nI s) dy np p ≠ none)))) I' L') :
    RM0 n0 xX13_draw (d + 10) [.ref (n0 + 59), .int (nI p), .int (nI s), .int dy, .int (-1)] K I L Q :=
  c13_drawA0 hW hp (fun I' L' f' hx => h I' L' (f'.mono (fun a j z => dr4_g z)) hx)
theorem c13_drawF {b : Nat} (hW : Wd K I np nr nb na t pid pts rid rp rk ln cx cy bid m par X Y A) (hp : p < np) (hb : b < nb)
    (h : ∀ I' L', Fz (gS K) I I' → (∀ g, DrP (fun q => msd I b q t) (I 81) X Y rp rk nr pts par (fun p k => I 70 (10 * p + k)) (fun p k => I 71 (10 * p + k)) (mvA A b) (I 64 b) (I 59 0) np p = some g → ∀ k, k < pts p → I' 92 k = (g k).1 ∧ I' 93 k = (g k).2) → Q (some (.int (bI (DrP (fun q => msd I b q t) (I 81) X Y rp rk nr pts par (fun p k => I 70 (10 * p + k)) (fun p k => I 71 (10 * p + k)) (mvA A b) (I 64 b) (I 59 0) np p ≠ none)))) I' L') :
    RM0 n0 xX13_drawFor (d + 11) [.ref (n0 + 59), .int (nI p), .int (nI b)] K I L Q := by
  have nbb := hW.2.2.2.2.2.2.2.2.2.1.n
  refine wp_X13_drawFor hW.2.1 ⟨q_inn (by omega) (by omega), ?_⟩
  rw [q_cl (by omega)]
  refine c13_drawG (mv := mvA A b) hW hp (Or.inr ⟨b, hb, rfl, fun _ _ => rfl⟩) (fun I1 f1 k hk L1 {Q} z => iq (nI_pos (by omega)) ?_) (fun I' L' f' hx => ⟨_, rfl, bI_b, h I' L' (f'.mono (fun a j z => dr4_g z)) hx⟩)
  have w1 := hW.fr KD.rf f1
  refine c13_measuredOf (d := d + 8) w1.2.1 (by omega) hk w1.2.2.2.2.2.2.2.2.2.2.2.2.2.1 w1.2.2.2.2.2.2.2.2.2.2.2.2.2.2.1 ?_
  rw [msd_fr f1]
  exact z
end RD4
