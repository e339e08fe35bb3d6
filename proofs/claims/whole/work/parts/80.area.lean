/-! area -/
def arS (W : Nat → Int32 × Int32) (N : Nat) : Nat → Int64
  | 0 => 0
  | n + 1 => arS W N n + (((W n).1.toInt64 * (nxW W N n).2.toInt64) - ((nxW W N n).1.toInt64 * (W n).2.toInt64))
def arV (kd : Int32) (s : Int64) : Int64 := if kd = 1 then 2 * (if s < 0 then -s else s) else if kd = 2 then 2 * (if s < 0 then -s else s) else (if s < 0 then -s else s)
def ArP (I : z_I) (g : Nat → Int32 × Int32) (p n : Nat) : Int64 := arV (I 66 p) (arS (wyP I g p n) (offN (cvP I p) n) (offN (cvP I p) n))
def OpRL (n0 : Nat) (xr : z_X) (dr : Nat) (As : List Value) (K : z_K) (I : z_I) (L : z_L) (P : z_I → z_L → Prop) (r : Int64) : Prop :=
  RM0 n0 xr dr (.ref (n0 + 59) :: As) K I L (fun v2 I2 L2 => v2 = some (.long r) ∧ P I2 L2)
def OpLQ (n0 : Nat) (xr : z_X) (dr : Nat) (As : List Value) (P : z_K → z_I → z_L → Prop) : z_R := fun v K1 I1 L1 => ∃ r : Int64, v = some (.long r) ∧ OpRL n0 xr dr As K1 I1 L1 (P K1) r
def OpL (n0 : Nat) (xc xr : z_X) (d dr mc ms : Nat) (As : List Value) (K : z_K) (I : z_I) (L : z_L) (P : z_K → z_I → z_L → Prop) : Prop :=
  RM n0 xc d mc ms (.ref (n0 + 0) :: As) K I L (OpLQ n0 xr dr As P)
section ARE
variable {n0 d dd dr : Nat} {K : z_K} {I I' : z_I} {L : z_L} {np nr nb na t : Nat} {pid pts rid rp rk ln cx cy bid m : Nat → Nat} {par : Nat → Option Nat} {X Y : Nat → List Int32} {A : Int32 → Int32 → Option (Int32 × Int32)} {p n N : Nat} {g W : Nat → Int32 × Int32} {P : z_K → z_I → z_L → Prop} {p0 p1 p2 : Int32}
theorem ArP_f (hI : Fz (gT K) I I') : ArP I' g p n = ArP I g p n := by
  unfold ArP wyP cvP
  rw [show I' 72 = I 72 from funext fun q => hI 72 q (by unfold gT gS; omega), show I' 73 = I 73 from funext fun q => hI 73 q (by unfold gT gS; omega), show I' 74 = I 74 from funext fun q => hI 74 q (by unfold gT gS; omega), hI 66 p (by unfold gT gS; omega)]
theorem abs_e {s : Int64} : (if 0 < s then s else -s) = (if s < 0 then -s else s) := by
  have e0 : (0 : Int64).toInt = 0 := rfl
  by_cases g : s < 0
  · rw [if_pos g, if_neg (fun z => by have := q_ltL.mp z; have := q_ltL.mp g; omega)]
  · rw [if_neg g]
    by_cases g2 : 0 < s
    · rw [if_pos g2]
    · rw [if_neg g2]
      have : s = 0 := Int64.toInt_inj.mp (by have := mt q_ltL.mpr g; have := mt q_ltL.mpr g2; omega)
      rw [this]; rfl
theorem c2_area_l {Q : z_q} {o : Nat} (hC : CLay K) (ho : o < K.1) (hc : (K.2.1 o).1 = 5) (hN : 1 ≤ N ∧ N ≤ 80) (h15 : I 8 15 = nI N) (hn : ∀ n, n < N → I 18 n = (W n).1 ∧ I 19 n = (W n).2) (h : Q (some (.long (arV (I o 1) (arS W N N)))) I L) :
    ∀ w c, c + w = N → Z n0 xX2_areaOf (d + 1) 0 0 10 [(0, .ref (n0 + 8)), (1, .ref (n0 + o)), (2, .long (arS W N c)), (4, .int (nI c))] [] K I L (z_q0 K Q) := by
  intro w
  induction w with
  | zero =>
    intro c hcw
    have e : c = N := by omega
    subst e
    refine wp_X2_areaOf_10 hC ?_
    rw [h15, abs_e]
    exact iq (fun z => by have := q_lt.mp z; omega) ⟨ho, hc, h⟩
  | succ w ih =>
    intro c hcw
    refine wp_X2_areaOf_10 hC ?_
    have en : (if nI c + 1 < nI N then nI c + 1 else 0) = nI (if c + 1 < N then c + 1 else 0) := by
      rw [← nI_succ]
      by_cases q : c + 1 < N
      · rw [if_pos q, if_pos (nI_lt q (by omega))]
      · rw [if_neg q, if_neg (fun z => q (by have := q_lt.mp z; rw [q_nI (by omega), q_nI (by omega)] at this; omega))]; rfl
    have hxn : (if c + 1 < N then c + 1 else 0) < N := by split <;> omega
    have enx : nxW W N c = W (if c + 1 < N then c + 1 else 0) := by
      unfold nxW
      by_cases q : c + 1 < N
      · rw [if_pos q, if_pos q]
      · rw [if_neg q, if_neg q]
    rw [h15, en, q_cl (n := if c + 1 < N then c + 1 else 0) (by omega), q_cl (n := c) (by omega), (hn _ hxn).1, (hn _ hxn).2, (hn c (by omega)).1, (hn c (by omega)).2, ← enx, ← nI_succ]
    exact ip (nI_lt (by omega) (by omega)) ⟨q_inn (by omega) (by omega), q_inn (by omega) (by omega), ih (c + 1) (by omega)⟩
theorem c2_areaOf {Q : z_q} (hW : Wd K I np nr nb na t pid pts rid rp rk ln cx cy bid m par X Y A) (hB : WdB I np A) (hp : p < np) (hg : ∀ k, k < pts p → I 11 (10 * p + k) = (g k).1 ∧ I 12 (10 * p + k) = (g k).2) (hb : bnP g (pts p))
    (h : ∀ I', Fz trS I I' → Q (some (.long (ArP I g p (pts p)))) I' L) : RM0 n0 xX2_areaOf (d + 4) [.ref (n0 + 8), .ref (n0 + pid p)] K I L Q := by
  have hP := hW.2.2.2.1
  have hpt := (hW.2.2.2.2.1.2.2 p hp).2.2
  have hoff := off_b (cv := cvP I p) (pts p)
  have hlt := hP.lt hp
  have hge := hP.ge hp
  refine wp_X2_areaOf hW.1 (c2_trace (d := d) (g := g) (cv := cvP I p) hW hp hg hb (hB.bk hp hpt.2) (fun _ _ => rfl) (fun I1 f1 h15 hx h20 => ⟨rfl, ?_⟩))
  have hr := h I1 f1
  have ek : I1 (pid p) 1 = I 66 p := by rw [f1 _ _ (by unfold trS; omega)]; exact (hW.2.2.2.2.2.1 p hp).2.1
  unfold ArP at hr
  rw [← ek] at hr
  exact c2_area_l (d := d + 3) (W := wyP I g p (pts p)) (N := offN (cvP I p) (pts p)) hW.1 (by omega) (hP.cls hp) (by omega) h15 hx hr (offN (cvP I p) (pts p)) 0 (by omega)
theorem c13_area_l {Q : z_q} (hM : MLay K) (hp : p < 16) (hN : 1 ≤ N ∧ N ≤ 80) (h61 : I 59 61 = nI N) (hn : ∀ n, n < N → I 95 n = (W n).1 ∧ I 96 n = (W n).2) (hNN : I 95 N = (W 0).1 ∧ I 96 N = (W 0).2) (h : Q (some (.long (arV (I 66 p) (arS W N N)))) I L) :
    ∀ w c, c + w = N → Z n0 xX13_areaOf (d + 1) 0 0 10 [(0, .ref (n0 + 59)), (1, .int (nI p)), (2, .long (arS W N c)), (4, .int (nI c))] [] K I L (z_q0 K Q) := by
  intro w
  induction w with
  | zero =>
    intro c hcw
    have e : c = N := by omega
    subst e
    refine wp_X13_areaOf_10 hM ?_
    rw [h61]
    refine iq (fun z => by have := q_lt.mp z; omega) ?_
    rw [q_cl (by omega)]
    unfold arV at h
    by_cases g : arS W c c < 0
    · rw [if_pos g] at h
      exact ip g ⟨q_inn (by omega) (by omega), h⟩
    · rw [if_neg g] at h
      exact iq g ⟨q_inn (by omega) (by omega), h⟩
  | succ w ih =>
    intro c hcw
    have hc : c < N := by omega
    have enx : I 95 (c + 1) = (nxW W N c).1 ∧ I 96 (c + 1) = (nxW W N c).2 := by
      unfold nxW
      by_cases q : c + 1 < N
      · rw [if_pos q]; exact hn _ q
      · rw [if_neg q, show c + 1 = N from by omega]; exact hNN
    refine wp_X13_areaOf_10 hM ?_
    rw [h61, show nI c + 1 = nI (c + 1) from by rw [← nI_succ], q_cl (n := c + 1) (by omega), q_cl (n := c) (by omega), enx.1, enx.2, (hn c hc).1, (hn c hc).2]
    exact ip (nI_lt (by omega) (by omega)) ⟨q_inn (by omega) (by omega), q_inn (by omega) (by omega), ih (c + 1) (by omega)⟩
theorem wy_0 (hn : 1 ≤ n) : wyP I g p n 0 = g 0 := by
  have e : wyP I g p n (offN (cvP I p) 0 + 0) = ndP g (fun k => I 73 (10 * p + k)) (fun k => I 74 (10 * p + k)) n 0 0 := wy_k n 0 0 (by omega) (by have := st_b (cv := cvP I p) 0; omega)
  have e' : wyP I g p n 0 = ndP g (fun k => I 73 (10 * p + k)) (fun k => I 74 (10 * p + k)) n 0 0 := e
  rw [e']
  unfold ndP
  show (Int32.ofInt (ndZ 0 _ _ _), Int32.ofInt (ndZ 0 _ _ _)) = _
  rw [ndZ_0, ndZ_0]; simp
theorem c13_areaOf {Q : z_q} (hW : Wd K I np nr nb na t pid pts rid rp rk ln cx cy bid m par X Y A) (hB : WdB I np A) (hp : p < np) (hg : ∀ k, k < pts p → I 92 k = (g k).1 ∧ I 93 k = (g k).2) (hb : bnP g (pts p))
    (h : ∀ I', Fz fwS I I' → Q (some (.long (ArP I g p (pts p)))) I' L) : RM0 n0 xX13_areaOf (d + 4) [.ref (n0 + 59), .int (nI p)] K I L Q := by
  have hpt := (hW.2.2.2.2.1.2.2 p hp).2.2
  have hnp := hW.2.2.2.1.n
  have hoff := off_b (cv := cvP I p) (pts p)
  refine wp_X13_areaOf hW.2.1 (c13_findWays (d := d) (g := g) (cv := cvP I p) hW hp hg hb (hB.bk hp hpt.2) (fun _ _ => rfl) (fun I1 f1 h61 hx hN h97 => ⟨rfl, ?_⟩))
  have hr := h I1 f1
  rw [← wy_0 (I := I) (g := g) (p := p) (n := pts p) (by omega)] at hN
  have ek : I1 66 p = I 66 p := f1 _ _ (by unfold fwS; omega)
  unfold ArP at hr
  rw [← ek] at hr
  exact c13_area_l (d := d + 3) (W := wyP I g p (pts p)) (N := offN (cvP I p) (pts p)) hW.2.1 (by omega) (by omega) h61 hx hN hr (offN (cvP I p) (pts p)) 0 (by omega)
theorem op_rfL {xr : z_X} {As : List Value} {w : Int32} (k : Nat) (hC : CLay K) (h1 : 1 ≤ k) (h7 : k ≤ 7) (hw : w.toInt = -(k : Int)) (h : OpRL n0 xr dr As K (zI I 1 k (I 1 k + 1)) L (P K) w.toInt64) :
    RM0 n0 xX12_refuse dd [.ref (n0 + 0), .int w] K I L (fun vv I6 L7 => ∃ r8 : Int32, vv = some (.int r8) ∧ OpLQ n0 xr dr As P (some (.long r8.toInt64)) K I6 L7) :=
  c12_refuse k hC h1 h7 hw ⟨_, rfl, _, rfl, h⟩
theorem op_rrL {P : z_I → z_L → Prop} {w : Int32} (k : Nat) (hM : MLay K) (h7 : k ≤ 7) (hw : w.toInt = -(k : Int)) (h : P (zI I 75 k (I 75 k + 1)) L) :
    RM0 n0 xX13_refuse dd [.ref (n0 + 59), .int w] K I L (fun vv I6 L7 => ∃ r8 : Int32, vv = some (.int r8) ∧ (some (Value.long r8.toInt64) = some (Value.long w.toInt64) ∧ P I6 L7)) :=
  c13_refuse k hM h7 hw ⟨_, rfl, rfl, h⟩
/-- a piece that is none, or is none at all -/
theorem c13_wrongDrawn_f {Q : z_q} {q sz dy : Int32} (hW : Wd K I np nr nb na t pid pts rid rp rk ln cx cy bid m par X Y A) (hq : ¬ (0 ≤ q.toInt ∧ q.toInt < np)) (h : Q (some (.int (-1))) I L) : RM0 n0 xX13_wrongDrawn (d + 11) [.ref (n0 + 59), .int q, .int sz, .int dy] K I L Q := by
  have hnp := hW.2.2.2.1.n
  refine wp_X13_wrongDrawn hW.2.1 (c13_isPiece hW.2.1 hW.2.2.2.2.1.2.1 (by omega) ⟨_, rfl, ?_⟩)
  rw [bI_f hq]
  exact ip rfl h
theorem op_area (hW : Wd K I np nr nb na t pid pts rid rp rk ln cx cy bid m par X Y A) (hB : WdB I np A) (hs0 : ∀ K' I' L', KD K K' → Fz (gS K) I I' → P K' I' L') (hs1 : ∀ k, 1 ≤ k → k ≤ 7 → ∀ K' I' L', KD K K' → Fz (gS K) (rfI I k) I' → P K' I' L') :
    OpL n0 xX12_area xX13_area (d + 5) (d + 12) 0 0 [.int p0, .int p1, .int p2] K I L P := by
  have hC := hW.1
  have hM := hW.2.1
  have hP := hW.2.2.2.1
  have hN := hW.2.2.2.2.1
  have hnp := hP.n
  have hr : ∀ k, 1 ≤ k → k ≤ 7 → P K (rfI I k) L := fun k h1 h7 => hs1 k h1 h7 K _ L KD.rf Fz.rfl'
  by_cases g1 : 0 ≤ p0.toInt ∧ p0.toInt < np
  · obtain ⟨i, rfl, _, ei⟩ := q_of g1.1
    have hi : i < np := by omega
    have hlt := hP.lt hi
    have hpt := (hN.2.2 i hi).2.2
    refine wp_X12_area hC (c12_pieceOf_t hC hP hN.1 hi ⟨_, rfl, oss (c12_isSize hC ⟨_, rfl, ?_⟩)⟩)
    by_cases g2 : 0 ≤ p1.toInt ∧ p1.toInt < 11
    · rw [bI_t g2]
      refine iq (by decide) (c12_outside hC ⟨_, rfl, ?_⟩)
      by_cases gb : bnd p2 0 1000 < 0
      · obtain ⟨k, k1, k7, ek⟩ := bnd_k gb
        exact iq (fun z => by rw [z] at gb; exact absurd gb (by decide)) (op_rfL k hC k1 k7 ek (wp_X13_area hM (c13_wrongDrawn (hW.fT KD.rf (rf_gT Fz.rfl')) hi (fun z => absurd g2 z) (fun _ _ => ⟨_, rfl, ip gb (op_rrL k hM k7 ek (hr k k1 k7))⟩) (fun s hs es nb => absurd gb nb))))
      · rw [bnd_0 gb]
        obtain ⟨s, rfl, _, es⟩ := q_of g2.1
        have hs11 : s < 11 := by omega
        refine ip rfl (c12_sndAt hW hi hs11 (fun K1 I1 L1 k1 f1 e1 d1 n1 => ⟨_, rfl, hC.kd k1, ?_⟩))
        have w1 := hW.fr k1 f1
        have f1T : Fz (gT K) I I1 := f1.mono (fun _ _ z => gT_s z)
        cases eD : DAt I X Y rp rk nr t pts par np s p2 i with
        | none =>
          rw [bI_f (by simp)]
          refine ip rfl (op_rfL 7 (hC.kd k1) (by omega) (by omega) rfl ?_)
          have w2 := hW.fT k1 (rf_gT (k := 7) (v := I1 1 7 + 1) f1)
          refine wp_X13_area w2.2.1 (c13_wrongDrawn w2 hi (fun z => absurd g2 z) (fun _ z => absurd z gb) (fun s' hs' es' _ I2 L2 f2 hx => ⟨_, rfl, ?_⟩))
          have ess : s' = s := ((q_ni (by omega) (by omega)).mp es').symm
          subst ess
          rw [DAt_f (rf_gT f1), eD, if_pos rfl]
          refine ip (by decide) (op_rrL 7 (hM.kd k1) (by omega) rfl (hs1 7 (by omega) (by omega) K1 _ _ k1 ?_))
          rw [gS_k k1] at f2
          exact rf_late f1 f2
        | some g =>
          rw [bI_t (by simp)]
          have hbg := DAt_b hW hB hi hs11 eD
          have hB1 := hB.fT f1T
          refine iq (by decide) (c2_areaOf (g := g) w1 hB1 hi (fun k hk => d1.pl hi n1 eD hk) hbg (fun I3 f3 => ⟨_, rfl, _, rfl, ?_⟩))
          have f3g : Fz (gS K) I I3 := f1.trans (f3.mono (fun a j z => trS_g z))
          have f3T : Fz (gT K) I I3 := f3g.mono (fun _ _ z => gT_s z)
          have w3 := hW.fr k1 f3g
          refine wp_X13_area w3.2.1 (c13_wrongDrawn w3 hi (fun z => absurd g2 z) (fun _ z => absurd z gb) (fun s' hs' es' _ I2 L2 f2 hx => ⟨_, rfl, ?_⟩))
          have ess : s' = s := ((q_ni (by omega) (by omega)).mp es').symm
          subst ess
          rw [DAt_f f3T] at hx ⊢
          rw [eD, if_neg (show ¬ (some g = none) by simp)]
          rw [gS_k k1] at f2
          have f2g : Fz (gS K) I I2 := f3g.trans f2
          have f2T : Fz (gT K) I I2 := f2g.mono (fun _ _ z => gT_s z)
          refine iq (by decide) (c13_areaOf (d := d + 7) (g := g) (hW.fr k1 f2g) (hB.fT f2T) hi (hx g eD) hbg (fun I4 f4 => ⟨_, rfl, ?_, hs0 K1 I4 L2 k1 (f2g.trans (f4.mono (fun a j z => fwS_g z)))⟩))
          rw [ArP_f f2T, ArP_f f1T]
    · rw [bI_f g2]
      exact ip rfl (op_rfL 1 hC (by omega) (by omega) rfl (wp_X13_area hM (c13_wrongDrawn (hW.fT KD.rf (rf_gT Fz.rfl')) hi (fun _ => ⟨_, rfl, ip (by decide) (op_rrL 1 hM (by omega) rfl (hr 1 (by omega) (by omega)))⟩) (fun z => absurd z g2) (fun s hs es => absurd (by rw [es, q_nI (by omega)]; omega) g2))))
  · exact wp_X12_area hC (c12_pieceOf_f hC hP hN.1 g1 ⟨_, rfl, osn (op_rfL 1 hC (by omega) (by omega) rfl (wp_X13_area hM (c13_wrongDrawn_f (hW.fT KD.rf (rf_gT Fz.rfl')) g1 ⟨_, rfl, ip (by decide) (op_rrL 1 hM (by omega) rfl (hr 1 (by omega) (by omega)))⟩)))⟩)
end ARE
