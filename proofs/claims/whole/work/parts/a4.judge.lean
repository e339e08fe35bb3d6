section JDG
variable {n0 d N : Nat} {K K' : z_K} {I I' : z_I} {L : z_L} {P : z_K → z_I → z_L → Prop} {np nr nb na t : Nat} {pid pts rid rp rk ln cx cy bid m mp ms : Nat → Nat} {par : Nat → Option Nat} {X Y : Nat → List Int32} {A : Int32 → Int32 → Option (Int32 × Int32)} {cw ow st nb2 : Nat} {E : lyE} {B : Nat → Nat}
/-- the bytes of the row -/
def ByD (I : z_I) (nb : Nat) (B : Nat → Nat) : Prop := nb ≤ 12 ∧ I 25 12 = nI nb ∧ I 59 106 = nI nb ∧ ∀ j, j < 12 → I 35 j = nI (B j) ∧ B j ≤ 95 ∧ I 132 j = nI (B j)
theorem c13_judge56 {Q : z_q} (hE : LyM K I E N) (hB : ∀ j, j < 12 → I 132 j = nI (B j) ∧ B j ≤ 95) :
    ∀ m i T reach I1, i + m = N → reach ≤ 96 → rch T reach → Fz lmQ I I1 → TkI I1 123 T → (∀ I', Fz lmQ I I' → Q (some (.int (jdg E B m i T reach))) I' L) → Z n0 xX13_judge (d + 1) 0 0 56 [(0, .ref (n0 + 59)), (1, .int (nI i))] [] K I1 L (z_q0 K Q) := by
  have hN := hE.2.1.1
  intro m
  induction m with
  | zero =>
    intro i T reach I1 hi hre hR f1 t1 h
    have hE1 := hE.fr f1
    refine wp_X13_judge_56 hE.1 ?_
    rw [hE1.2.2.1]
    exact iq (fun z => by have := (q_nlt (by omega) (by omega)).mp z; omega) (c13_longOf hE.1 t1 hR hre ⟨_, rfl, h I1 f1⟩)
  | succ m ih =>
    intro i T reach I1 hi hre hR f1 t1 h
    have hE1 := hE.fr f1
    have hiN : i < N := by omega
    have m0 : (3 : Int32) * nI i = nI (i * 3) := by rw [show (3 : Int32) * nI i = nI (3 * i) from q_nmul (a := 3), Nat.mul_comm]
    have m1 : nI (i * 3) + 1 = nI (i * 3 + 1) := q_nadd (b := 1)
    have m2 : nI (i * 3) + 2 = nI (i * 3 + 2) := q_nadd (b := 2)
    obtain ⟨b0, c0⟩ := hB (i * 3) (by omega)
    obtain ⟨b1, c1⟩ := hB (i * 3 + 1) (by omega)
    obtain ⟨b2, c2⟩ := hB (i * 3 + 2) (by omega)
    have e132 : I1 132 = I 132 := funext fun j => f1 132 j (by unfold lmQ; omega)
    refine wp_X13_judge_56 hE.1 ?_
    rw [hE1.2.2.1, m0, m1, m2]
    refine ip (nI_lt (by omega) (by omega)) ⟨q_inn (by omega) (by omega), q_inn (by omega) (by omega), q_inn (by omega) (by omega), ?_⟩
    rw [q_cl (n := i * 3) (by omega), q_cl (n := i * 3 + 1) (by omega), q_cl (n := i * 3 + 2) (by omega), e132, b0, b1, b2]
    refine c13_canLie hE1 hiN c0 c1 c2 t1 ⟨_, rfl, ?_⟩
    have ej : jdg E B (m + 1) i T reach = if okP E T i (B (i * 3)) (B (i * 3 + 1)) (B (i * 3 + 2)) then jdg E B m (i + 1) (putT T (E.2.2.1 i (B (i * 3 + 2))) (E.1 i) (B (i * 3)) (B (i * 3 + 1))) (mxN reach (B (i * 3) + E.1 i)) else -100 - nI i := rfl
    by_cases g : okP E T i (B (i * 3)) (B (i * 3 + 1)) (B (i * 3 + 2))
    · rw [ej, if_pos g] at h
      rw [bI_t g, e132, b0, b1, b2]
      have hcw := hE.2.1.2.2.1
      obtain ⟨hw, hh, hlast⟩ := hE.2.1.2.1 i hiN
      refine iq (by decide) (c13_lie hE1 hiN t1 g (fun I2 f2 t2 _ _ _ => ⟨rfl, ?_⟩))
      obtain ⟨k1, k2, k3, _, _, k6⟩ := g
      rw [← nI_succ]
      refine ih (i + 1) _ (mxN reach (B (i * 3) + E.1 i)) I2 (by omega) (by unfold mxN; split <;> omega) (rch_put hw.1 (hlast _) (by omega) k6 hR) (f1.trans (f2.mono (fun a j z => by unfold lmQ; omega))) t2 h
    · rw [ej, if_neg g] at h
      rw [bI_f g]
      exact ip rfl (h I1 f1)
theorem op_judge (hW : Wd K I np nr nb na t pid pts rid rp rk ln cx cy bid m par X Y A) (hB : WdB I np A) (hMk : MkD K I N np pid mp ms) (hcl : ClE I cw ow st) (hby : ByD I nb2 B) (hs0 : ∀ K' I' L', KD K K' → Fz (gX K) (zI (zI I 25 12 0) 59 106 0) I' → P K' I' L') (hs1 : ∀ k, 1 ≤ k → k ≤ 7 → ∀ K' I' L', KD K K' → Fz (gX K) (rfI I k) I' → P K' I' L') :
    OpA n0 xX12_judge xX13_judge (d + 6) (d + 12) 0 0 [] K I L P := by
  have hC := hW.1
  have hM := hW.2.1
  have hN4 := hMk.1
  have hnb := hby.1
  have hr : ∀ k, 1 ≤ k → k ≤ 7 → P K (rfI I k) L := fun k h1 h7 => hs1 k h1 h7 K _ L KD.rf Fz.rfl'
  have c3 : nI N * 3 = nI (N * 3) := q_nmul (b := 3)
  have r3 : (3 : Int32) * nI N = nI (N * 3) := by rw [show (3 : Int32) * nI N = nI (3 * N) from q_nmul (a := 3), Nat.mul_comm]
  have r5 : (N = 0 ∨ ¬ nb2 = N * 3) → OpR n0 xX13_judge (d + 12) [] K (zI I 1 5 (I 1 5 + 1)) L (P K) (-5) := fun g => by
    refine wp_X13_judge hM ?_
    rw [zI_r (by omega), hMk.2.2.1, hby.2.2.1, r3]
    by_cases g0 : N = 0
    · exact ip (by rw [g0]; rfl) (op_rr 5 hM (by omega) rfl (hr 5 (by omega) (by omega)))
    · refine iq (fun z => g0 ((q_ni (b := 0) (by omega) (by omega)).mp z)) (iq (fun z => ?_) (op_rr 5 hM (by omega) rfl (hr 5 (by omega) (by omega))))
      rcases g with g | g
      · exact g0 g
      · exact g ((q_ni (by omega) (by omega)).mp z)
  refine wp_X12_judge hC ?_
  rw [hMk.2.1, hby.2.1, c3]
  by_cases g0 : N = 0
  · exact ip (by rw [g0]; rfl) (op_rfK 5 hC (by omega) (by omega) rfl (r5 (Or.inl g0)))
  · refine iq (fun z => g0 ((q_ni (b := 0) (by omega) (by omega)).mp z)) ?_
    by_cases g1 : nb2 = N * 3
    · refine ip (by rw [g1]) (c12_shapesStand (d := d) hW hB hMk hcl.2.2.2 (fun K1 I1 L1 k1 f1 e => ⟨_, rfl, hC.kd k1, ip rfl (op_rfK 7 (hC.kd k1) (by omega) (by omega) rfl ?_)⟩) (fun K1 I1 L1 k1 f1 e => ⟨_, rfl, hC.kd k1, iq (by decide) ?_⟩))
      · have fT := rf_gX (k := 7) (v := I1 1 7 + 1) f1
        refine wp_X13_judge (hM.kd k1) ?_
        rw [(hMk.fT k1 fT).2.2.1, zI_r (by omega), f1 59 106 (by clear e; unfold gX gS; omega), hby.2.2.1, r3]
        refine iq (fun z => g0 ((q_ni (b := 0) (by omega) (by omega)).mp z)) (ip (by rw [g1]) (c13_findMarker (d := d) (hW.fT k1 fT) (hB.fT fT) (hMk.fT k1 fT) (by rw [fT 113 1 (by unfold gT gS; omega)]; exact hcl.2.2.2.2) (fun I2 L2 f2 _ => ⟨_, rfl, ip rfl (op_rr 7 (hM.kd k1) (by omega) rfl (hs1 7 (by omega) (by omega) K1 _ _ k1 ?_))⟩) (fun I2 L2 f2 e2 => ?_)))
        · rw [gX_k k1] at f2
          exact rf_lateX f1 f2
        · obtain ⟨i, hi, e⟩ := e
          obtain ⟨f, s, _⟩ := e2 i hi
          rw [stO_f fT, e] at s
          cases s
      · have f1T : Fz (gT K) I I1 := f1.mono (fun _ _ z => gX_T z)
        have e' : ∀ i, i < N → 0 < (fcA (stF I X Y rp rk nr t pts par np mp ms i) 24).1 ∧ ShC I1 (36 + 3 * i) (stF I X Y rp rk nr t pts par np mp ms i) := fun i hi => by
          obtain ⟨f, s1, s2, s3⟩ := e i hi
          have : stF I X Y rp rk nr t pts par np mp ms i = f := by unfold stF; rw [s1]; rfl
          rw [this]
          exact ⟨s2, s3⟩
        have z2 : ∀ a j, (a ≠ 25 ∨ j ≠ 12) → (zI I1 25 12 0) a j = I1 a j := fun a j h => zI_d (fun z => h.elim (fun h => h z.1) (fun h => h z.2))
        have cl1 := hcl.fT f1T
        have clz : ClE (zI I1 25 12 0) cw ow st := by
          unfold ClE
          rw [zI_r (by omega), zI_r (by omega)]
          exact cl1
        have hL := LyC_of (I := zI I1 25 12 0) (hC.kd k1) hN4 (by rw [z2 25 4 (Or.inr (by omega))]; exact (hMk.fT k1 f1T).2.1) clz (fun i hi => ⟨(e' i hi).1, (e' i hi).2.fr (fun j => z2 _ _ (Or.inl (by omega))) (fun j => z2 _ _ (Or.inl (by omega))) (fun j => z2 _ _ (Or.inl (by omega)))⟩)
        refine c4_judged (d := d + 2) (B := B) hL (fun j hj => ?_) (fun I2 f2 => ⟨_, rfl, _, rfl, ?_⟩)
        · rw [z2 35 j (Or.inl (by omega)), f1T 35 j (by unfold gT gS; omega)]
          exact ⟨(hby.2.2.2 j hj).1, (hby.2.2.2 j hj).2.1⟩
        -- the reference
        have f2X : Fz (gX K) (zI I 25 12 0) I2 := Fz.trans (fun a j hn => by
          by_cases e : a = 25 ∧ j = 12
          · rw [e.1, e.2, zI_s, zI_s]
          · rw [zI_d e, zI_d e]; exact f1 a j hn) (f2.mono (fun _ _ z => lyQ_X z))
        have f2T : Fz (gT K) I I2 := Fz.trans (Fz.z Fz.rfl' (by unfold gT; omega)) (f2X.mono (fun _ _ z => gX_T z))
        refine wp_X13_judge (hM.kd k1) ?_
        rw [(hMk.fT k1 f2T).2.2.1, f2X 59 106 (by unfold gX gS; omega), zI_r (by omega), hby.2.2.1, r3]
        refine iq (fun z => g0 ((q_ni (b := 0) (by omega) (by omega)).mp z)) (ip (by rw [g1]) (c13_findMarker (d := d) (hW.fT k1 f2T) (hB.fT f2T) (hMk.fT k1 f2T) (by rw [f2T 113 1 (by unfold gT gS; omega)]; exact hcl.2.2.2.2) (fun I3 L3 f3 e3 => ?_) (fun I3 L3 f3 e3 => ⟨_, rfl, iq (by decide) ?_⟩)))
        · obtain ⟨i, hi, s⟩ := e3
          obtain ⟨f, s1, _⟩ := e i hi
          rw [stO_f f2T, s1] at s
          cases s
        · rw [gX_k k1] at f3
          have e3' : ∀ i, i < N → MkC I3 i (stF I X Y rp rk nr t pts par np mp ms i) := fun i hi => by
            obtain ⟨f, s1, s2⟩ := e3 i hi
            rw [stO_f f2T] at s1
            have : stF I X Y rp rk nr t pts par np mp ms i = f := by unfold stF; rw [s1]; rfl
            rw [this]
            exact s2
          have f3T : Fz (gT K) I I3 := f2T.trans (f3.mono (fun _ _ z => gX_T z))
          have fz : Fz (fun a j => a = 59 ∧ j = 106) I3 (zI I3 59 106 0) := Fz.rfl'.z ⟨rfl, rfl⟩
          refine c13_findTurned (d := d + 10) (F := stF I X Y rp rk nr t pts par np mp ms) (hM.kd k1) hN4 (by rw [fz 59 89 (by omega)]; exact (hMk.fT k1 f3T).2.2.1) (fun i hi => (e3' i hi).fz fz (fun a j x y => by omega)) (fun I4 f4 t4 => ⟨rfl, c13_clearCloth (hM.kd k1) (fun I5 f5 t5 => ⟨rfl, ?_⟩)⟩)
          have f45 : Fz (fun a j => (a = 59 ∧ j = 106) ∨ a = 130 ∨ a = 123) I3 I5 := ((fz.mono (fun a j z => Or.inl z)).trans (f4.mono (fun a j z => Or.inr (Or.inl z)))).trans (f5.mono (fun a j z => Or.inr (Or.inr z)))
          have f5T : Fz (gT K) I I5 := f3T.trans (f45.mono (fun a j z => by unfold gT; omega))
          have hL5 := LyM_of (I := I5) (F := stF I X Y rp rk nr t pts par np mp ms) (hM.kd k1) hN4 ((hMk.fT k1 f5T).2.2.1) (hcl.fT f5T) (fun i hi => (e3' i hi).fz f45 (fun a j x y => by omega)) (fun i hi t ht k hk q hq => by rw [f5 130 _ (by omega)]; exact t4 i hi t ht k hk q hq)
          refine c13_judge56 (d := d + 11) (E := lyM (stF I X Y rp rk nr t pts par np mp ms) cw ow st) (B := B) hL5 (fun j hj => ?_) N 0 (fun _ _ => false) 0 I5 (by omega) (by omega) rch_0 Fz.rfl' t5 (fun I6 f6 => ⟨rfl, hs0 K1 I6 _ k1 ?_⟩)
          · rw [f5T 132 j (by unfold gT gS; omega)]
            exact ⟨(hby.2.2.2 j hj).2.2, (hby.2.2.2 j hj).2.1⟩
          · have s1 : Fz (gX K) (zI (zI I 25 12 0) 59 106 0) (zI I3 59 106 0) := (f2X.trans f3).zz
            refine ((s1.trans (f4.mono (fun a j z => Or.inr (by omega)))).trans (f5.mono (fun a j z => Or.inr (by omega)))).trans (f6.mono (fun _ _ z => lmQ_X z))
    · exact iq (fun z => g1 ((q_ni (by omega) (by omega)).mp z)) (op_rfK 5 hC (by omega) (by omega) rfl (r5 (Or.inr g1)))
end JDG
