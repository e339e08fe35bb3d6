section CMF
variable {n0 d : Nat} {K K1 : z_K} {I : z_I} {L : z_L} {Q : z_R} {np nr nb na t : Nat} {pid pts rid rp rk ln cx cy bid m : Nat → Nat} {par : Nat → Option Nat} {X Y : Nat → List Int32} {A : Int32 → Int32 → Option (Int32 × Int32)} {p k : Nat} {dy : Int32}
theorem BlK.lt (h : BlK K I np pid par) : ∀ q, q < np → ∀ b, par q = some b → b < q := fun q hq b e => ((h q hq).2.2.2 b e).1
theorem cf_dn (hW : Wd K I np nr nb na t pid pts rid rp rk ln cx cy bid m par X Y A) (hp : p < np) (hk : k < 10) {tt : Nat} {lin : Nat → Nat} (hL1 : KL K K1) (h15 : ∀ k, k < tt → K1.2.2 15 k = some (pid (lin k)) ∧ lin k < np) (hch : ∀ k, k + 1 < tt → par (lin k) = some (lin (k + 1))) (h0 : 0 < tt → lin 0 = p) (htt : tt ≤ 16)
    (h : ∀ I', Fz (fun a _ => a = 17) I I' → Q (some (.int (nmP X Y (fun p k => selR rp rk (I 81) p k dy nr) pts par p k))) K1 I' L) :
    ∀ j I1, j < tt → Fz (fun a _ => a = 17) I I1 → (∀ q, q < 10 → I1 17 q = nmB (par (lin j)) (nmP X Y (fun p k => selR rp rk (I 81) p k dy nr) pts par) q) → Z n0 xX2_comesFrom (d + 3) 0 0 54 [(0, .ref (n0 + 8)), (2, .int (nI k)), (3, .int dy), (5, .int (nI j))] [] K1 I1 L Q := by
  have hW1 : ∀ {I1}, Fz (fun a _ => a = 17) I I1 → Wd K1 I1 np nr nb na t pid pts rid rp rk ln cx cy bid m par X Y A := fun hI => hW.fr hL1.kd (hI.mono (fun a j z => by unfold gS; omega))
  have hlb := hW.2.2.2.2.2.1.lt
  intro j
  induction j with
  | zero =>
    intro I1 hj hI hb
    obtain ⟨e15, hlin⟩ := h15 0 hj
    have w1 := hW1 hI
    refine wp_X2_comesFrom_54 w1.1 (iq (by decide) ⟨q_inn (by omega) (by omega), pid (lin 0), e15, c2_nameOne (d := d) w1 hlin hb (fun I2 f2 h2 => ⟨rfl, ?_⟩)⟩)
    refine wp_X2_comesFrom_54 w1.1 (ip (by decide) ⟨q_inn (by omega) (by omega), ?_⟩)
    rw [q_cl (by omega), h2 k hk, show I1 81 = I 81 from funext fun q => hI 81 q (by omega)]
    have := h I2 (hI.trans f2)
    rw [← h0 hj, nmP_e hlb hlin] at this
    exact this
  | succ j ih =>
    intro I1 hj hI hb
    obtain ⟨e15, hlin⟩ := h15 (j + 1) hj
    have w1 := hW1 hI
    refine wp_X2_comesFrom_54 w1.1 (iq (nI_pos (by omega)) ⟨q_inn (by omega) (by omega), pid (lin (j + 1)), by rw [q_cl (by omega)]; exact e15, c2_nameOne (d := d) w1 hlin hb (fun I2 f2 h2 => ⟨rfl, ?_⟩)⟩)
    rw [nI_dn]
    refine ih I2 (by omega) (hI.trans f2) (fun q hq => ?_)
    rw [hch j hj, h2 q hq, show I1 81 = I 81 from funext fun q => hI 81 q (by omega)]
    show _ = nmP X Y (fun p k => selR rp rk (I 81) p k dy nr) pts par (lin (j + 1)) q
    rw [nmP_e hlb hlin]
theorem cf_up (hW : Wd K I np nr nb na t pid pts rid rp rk ln cx cy bid m par X Y A) (hp : p < np) (hk : k < 10)
    (h : ∀ K' I', KL K K' → Fz (fun a _ => a = 17) I I' → Q (some (.int (nmP X Y (fun p k => selR rp rk (I 81) p k dy nr) pts par p k))) K' I' L) :
    ∀ q, q < np → ∀ (tt : Nat) (K1 : z_K) (lin : Nat → Nat), KL K K1 → tt + q ≤ p → (∀ k, k < tt → K1.2.2 15 k = some (pid (lin k)) ∧ lin k < np) → (∀ k, k + 1 < tt → par (lin k) = some (lin (k + 1))) → (0 < tt → lin 0 = p ∧ par (lin (tt - 1)) = some q) → (tt = 0 → q = p) → Z n0 xX2_comesFrom (d + 3) 0 0 6 [(0, .ref (n0 + 8)), (2, .int (nI k)), (3, .int dy), (4, .int (nI tt)), (5, .ref (n0 + pid q))] [] K1 I L Q := by
  have hnp := hW.2.2.2.1.n
  intro q
  induction q using Nat.strongRecOn with
  | ind q ih =>
    intro hq tt K1 lin hL1 htq h15 hch hpr h00
    have w1 := hW.fr hL1.kd Fz.rfl'
    have hP1 := w1.2.2.2.1
    have hlt := hP1.lt hq
    have hge := hP1.ge hq
    obtain ⟨e0, _, l3, l4⟩ := w1.2.2.2.2.2.1 q hq
    refine wp_X2_comesFrom_6 (a5 := some (pid q)) w1.1 (oss (ip (nI_lt (b := 16) (by omega) (by omega)) ?_))
    rw [q_cl (n := tt) (by omega)]
    refine ⟨q_inn (by omega) (by omega), by omega, hP1.cls hq, by show pid q < K1.1; omega, hP1.cls hq, fun o ho => ?_⟩
    rw [zR_ne (by omega)] at ho
    rw [← nI_succ]
    have hL2 : KL K (zR K1 15 tt (some (pid q))) := hL1.z
    have n15 : ∀ k, k < tt + 1 → (zR K1 15 tt (some (pid q))).2.2 15 k = some (pid ((fun k => if k = tt then q else lin k) k)) ∧ (fun k => if k = tt then q else lin k) k < np := by
      intro k hk
      show _ = some (pid (if k = tt then q else lin k)) ∧ (if k = tt then q else lin k) < np
      by_cases e : k = tt
      · subst e; rw [if_pos rfl, zR_e]; exact ⟨rfl, hq⟩
      · rw [if_neg e, zR_o e]; exact h15 k (by omega)
    have nch : ∀ k, k + 1 < tt + 1 → par ((fun k => if k = tt then q else lin k) k) = some ((fun k => if k = tt then q else lin k) (k + 1)) := by
      intro k hk
      show par (if k = tt then q else lin k) = some (if k + 1 = tt then q else lin (k + 1))
      rw [if_neg (by omega)]
      by_cases e : k + 1 = tt
      · rw [if_pos e]
        have := (hpr (by omega)).2
        rw [show tt - 1 = k from by omega] at this
        exact this
      · rw [if_neg e]; exact hch k (by omega)
    have nl0 : (fun k => if k = tt then q else lin k) 0 = p := by
      show (if 0 = tt then q else lin 0) = p
      by_cases e : 0 = tt
      · rw [if_pos e]; exact h00 e.symm
      · rw [if_neg e]; exact (hpr (by omega)).1
    cases ep : par q with
    | none =>
      rw [(l3 ep).2] at ho
      rw [← ho]
      refine wp_X2_comesFrom_6 (a5 := none) (w1.1.kd KD.z15) (osn (cJ_fill (ca_17 (w1.1.kd KD.z15)).2.1 (ca_17 (w1.1.kd KD.z15)).2.2 (by decide) ⟨rfl, ?_⟩))
      rw [nI_pred]
      have ff : Fz (fun a _ => a = 17) I (flI I 17 10 0) := fun a j hn => by rw [flI_n hn]
      refine cf_dn (lin := fun k => if k = tt then q else lin k) (tt := tt + 1) hW hp hk hL2 n15 nch (fun _ => nl0) (by omega) (fun I' f' => h _ I' hL2 f') tt _ (by omega) ff (fun i hi => ?_)
      rw [flI_s, if_pos hi, if_pos rfl, ep]
      rfl
    | some b =>
      obtain ⟨b1, b2, b3, b4⟩ := l4 b ep
      rw [b4] at ho
      rw [← ho]
      refine ih b b1 (by omega) (tt + 1) _ (fun k => if k = tt then q else lin k) hL2 (by omega) n15 nch (fun _ => ⟨nl0, ?_⟩) (fun z => absurd z (by omega))
      rw [Nat.add_sub_cancel, if_pos rfl]; exact ep
theorem c2_comesFrom (hW : Wd K I np nr nb na t pid pts rid rp rk ln cx cy bid m par X Y A) (hp : p < np) (hk : k < 10)
    (h : ∀ K' I', KD K K' → Fz (gS K) I I' → Q (some (.int (nmP X Y (fun p k => selR rp rk (I 81) p k dy nr) pts par p k))) K' I' L) : RM n0 xX2_comesFrom (d + 3) 0 0 [.ref (n0 + 8), .ref (n0 + pid p), .int (nI k), .int dy] K I L Q :=
  wp_X2_comesFrom hW.1 (cf_up hW hp hk (fun K' I' a b => h K' I' a.kd (b.mono (fun a j z => by unfold gS; omega))) p hp 0 K (fun _ => 0) KL.rf (by omega) (fun k hk => absurd hk (by omega)) (fun k hk => absurd hk (by omega)) (fun z => absurd z (by omega)) (fun _ => rfl))
end CMF
