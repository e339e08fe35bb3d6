section OF2
variable {n0 d : Nat} {K K1 : z_K} {I : z_I} {L : z_L} {np nr nb na t : Nat} {pid pts rid rp rk ln cx cy bid m : Nat → Nat} {par : Nat → Option Nat} {X Y : Nat → List Int32} {A : Int32 → Int32 → Option (Int32 × Int32)} {p k r : Nat} {dy : Int32} {Q : z_q} {P : z_K → z_I → z_L → Prop} {p0 p1 p2 : Int32} {NP : Nat → Nat → Int32}
theorem c13_from24 (hW : Wd K I np nr nb na t pid pts rid rp rk ln cx cy bid m par X Y A) (hNP : ∀ p, p < np → NP p = nmQ X Y (fun k => selR rp rk (I 81) p k dy nr) (nmB (par p) NP) (pts p)) (hp : p < np) (hk : k < pts p)
    (h : ∀ I' L', Fz (gS K) I I' → Q (some (.int (NP p k))) I' L') :
    ∀ w b I1 L1, b + w = p + 1 → Fz (gS K) I I1 → fmJ I1 NP pts b → Z n0 xX13_from (d + 9) 0 0 24 [(0, .ref (n0 + 59)), (1, .int (nI p)), (2, .int (nI k)), (3, .int dy), (5, .int (nI b))] [] K I1 L1 (z_q0 K Q) := by
  have hM := hW.2.1
  have hnp := hW.2.2.2.1.n
  have hpt := (hW.2.2.2.2.1.2.2 p hp).2.2.2
  intro w
  induction w with
  | zero =>
    intro b I1 L1 hb f1 j1
    have : b = p + 1 := by omega
    subst this
    refine wp_X13_from_24 hM (ip (nI_lt (by omega) (by omega)) ?_)
    rw [show (10 : Int32) = nI 10 from rfl, q_nmul, q_nadd, q_cl (by omega), j1 p (by omega) k hk]
    exact ⟨q_inn (by omega) (by omega), h I1 L1 f1⟩
  | succ w ih =>
    intro b I1 L1 hb f1 j1
    refine wp_X13_from_24 hM (iq (fun z => by have := (q_nlt (by omega) (by omega)).mp z; omega) ?_)
    exact c13_from33 (d := d) (j := 0) hW hNP (show b < np by omega) (fun I' L' f' j' => ih (b + 1) I' L' (by omega) f' j') (pts b) 0 I1 L1 (by omega) f1 j1 (fun q hq => by omega)
theorem op_from (hW : Wd K I np nr nb na t pid pts rid rp rk ln cx cy bid m par X Y A) (hs0 : ∀ K' I' L', KD K K' → Fz (gS K) I I' → P K' I' L') (hs1 : ∀ k, 1 ≤ k → k ≤ 7 → ∀ K' I' L', KD K K' → Fz (gS K) (rfI I k) I' → P K' I' L') :
    OpA n0 xX12_from xX13_from (d + 4) (d + 9) 0 0 [.int p0, .int p1, .int p2] K I L P := by
  have hC := hW.1
  have hM := hW.2.1
  have hP := hW.2.2.2.1
  have hN := hW.2.2.2.2.1
  have hnp := hP.n
  have hr : ∀ k, 1 ≤ k → k ≤ 7 → P K (rfI I k) L := fun k h1 h7 => hs1 k h1 h7 K _ L KD.rf Fz.rfl'
  by_cases g1 : isPt np pts p0 p1
  · obtain ⟨i, j, rfl, rfl, hi, hj⟩ := isPt_of hnp g1
    have hpt := (hN.2.2 i hi).2.2
    refine wp_X12_from hC (c12_pieceWith_t hC hP hN.1 hN.c hi hj ⟨_, rfl, oss (c12_outside hC ⟨_, rfl, ?_⟩)⟩)
    by_cases gb : bnd p2 0 1000 < 0
    · obtain ⟨k, k1, k7, ek⟩ := bnd_k gb
      exact iq (fun z => by rw [z] at gb; exact absurd gb (by decide)) (op_rfK k hC k1 k7 ek (wp_X13_from hM (c13_wrongPoint_t (d := d + 5) hM (hN.n' re_rf) hnp (hN.m' re_rf) hi hj ⟨_, rfl, ip gb (op_rr k hM k7 ek (hr k k1 k7))⟩)))
    · rw [bnd_0 gb]
      refine ip rfl (c2_comesFrom (d := d) hW hi (by omega) (fun K1 I1 k1 f1 => ⟨_, rfl, hC.kd k1, _, rfl, ?_⟩))
      have w1 := hW.fr k1 f1
      have e81 : I1 81 = I 81 := funext fun q => f1 81 q (by unfold gS; omega)
      refine wp_X13_from w1.2.1 (c13_wrongPoint_t (d := d + 5) w1.2.1 w1.2.2.2.2.1.2.1 hnp w1.2.2.2.2.1.m hi hj ⟨_, rfl, iq gb ?_⟩)
      refine c13_from24 (d := d) (NP := nmP X Y (fun p k => selR rp rk (I1 81) p k p2 nr) pts par) w1 (fun q hq => nmP_e w1.2.2.2.2.2.1.lt hq) hi hj (fun I2 L2 f2 => ⟨by rw [e81], hs0 K1 I2 L2 k1 ?_⟩) (i + 1) 0 I1 L (by omega) Fz.rfl' (fun c hc => by omega)
      rw [gS_k k1] at f2
      exact f1.trans f2
  · exact wp_X12_from hC (c12_pieceWith_f hC hP hN.1 hN.c g1 ⟨_, rfl, osn (op_rfK 1 hC (by omega) (by omega) rfl (wp_X13_from hM (c13_wrongPoint_f (d := d + 5) hM (hN.n' re_rf) hnp (hN.m' re_rf) g1 ⟨_, rfl, ip (by decide) (op_rr 1 hM (by omega) rfl (hr 1 (by omega) (by omega)))⟩)))⟩)
end OF2
