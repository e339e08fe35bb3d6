section TBL
variable {n0 d dr dd mc ms : Nat} {K : z_K} {I : z_I} {L : z_L} {P : z_K → z_I → z_L → Prop}
theorem c11_init {Q : z_R} {K0 : z_K} {I0 : z_I} {L0 : z_L} {b : Nat} {dy v : Int32} {o : Option Nat} (hb : K0.1 = b) (hK : K = zN K0 11 0) (hI : I = zI0 I0 b) (hL : L = zL0 L0 b) (h : ∀ K' I' L', Ext K0 K' I0 I' L0 L' b 1 → (K'.2.1 b).1 = 11 → K'.2.2 b 2 = o → I' b 0 = dy → I' b 1 = v → Q none K' I' L') : RM n0 xX11_init (d + 1) 0 0 [.ref (n0 + b), .int dy, .int v, zr n0 o] K I L Q := by
  obtain ⟨f1, f2, f3, f4, f5⟩ := z_new_ok hb hK
  obtain ⟨i1, i2⟩ := zI0_ok hI
  obtain ⟨l1, l2⟩ := zL0_ok hL
  refine ct_X11_init (by omega) f2 ?_
  refine h _ _ _ ⟨hb, f1, f3, fun a ha => ?_, fun a ha => ?_, l1⟩ f2 ?_ ?_ ?_
  · show (zR K b 2 o).2.2 a = K0.2.2 a
    rw [zR_ne (by omega)]; exact f4 a ha
  · show zI (zI I b 0 dy) b 1 v a = I0 a
    rw [zI_r (by omega), zI_r (by omega)]; exact i1 a ha
  · show (zR K b 2 o).2.2 b 2 = o
    rw [zR_at]; simp
  · show zI (zI I b 0 dy) b 1 v b 0 = dy
    rw [zI_d (by omega)]; exact zI_s
  · show zI (zI I b 0 dy) b 1 v b 1 = v
    exact zI_s
theorem tabV_RE {I' : z_I} (hr : RE I' I) (m s dy : Int32) : ∀ t, tabV I' m s dy t = tabV I m s dy t := by
  intro t
  induction t with
  | zero => rfl
  | succ t ih =>
    unfold tabV
    rw [ih, hr 60 (by omega) (by omega), hr 61 (by omega) (by omega), hr 62 (by omega) (by omega), hr 63 (by omega) (by omega)]
/-- the log's next entry -/
def logI (I : z_I) (t : Nat) (m s v dy : Int32) : z_I := zI (zI (zI (zI (zI I 60 t m) 61 t s) 62 t v) 63 t dy) 59 1 (nI (t + 1))
theorem op_table {m s v : Int32} {t : Nat} (hC : CLay K) (hM : MLay K) (h152 : 152 ≤ K.1) (hd : I 0 0 = I 59 0) (ht : I 59 1 = nI t) (htb : t < 2100) (hT : Tab K I t) (hr : ∀ k, 1 ≤ k → k ≤ 7 → P K (rfI I k) L)
    (hs1 : ∀ i j q, i < 8 → j < 11 → 0 ≤ v.toInt → v.toInt ≤ 9999 → K.2.2 2 (11 * i + j) = some q → 152 ≤ q → I q 0 = I 59 0 → P K (logI (zI I q 1 v) t (nI i) (nI j) v (I 59 0)) L)
    (hs2 : ∀ i j, i < 8 → j < 11 → 0 ≤ v.toInt → v.toInt ≤ 9999 → (∀ q, K.2.2 2 (11 * i + j) = some q → ¬ I q 0 = I 59 0) → ∀ K' I' L', Ext K K' I I' L L' K.1 1 → (K'.2.1 K.1).1 = 11 → K'.2.2 K.1 2 = K.2.2 2 (11 * i + j) → I' K.1 0 = I 59 0 → I' K.1 1 = v → P (zR K' 2 (11 * i + j) (some K.1)) (logI I' t (nI i) (nI j) v (I 59 0)) L') :
    OpA n0 xX12_table xX13_table (d + 2) (d + 2) 1 3 [.int m, .int s, .int v] K I L P := by
  refine wp_X12_table hC (c12_isMeasure hC ⟨_, rfl, ?_⟩)
  by_cases gm : 0 ≤ m.toInt ∧ m.toInt < 8
  · have hbm : bI (0 ≤ m.toInt ∧ m.toInt < 8) = 1 := bI_t gm
    rw [hbm]
    refine iq (by decide) (c12_isSize hC ⟨_, rfl, ?_⟩)
    by_cases gs : 0 ≤ s.toInt ∧ s.toInt < 11
    · have hbs : bI (0 ≤ s.toInt ∧ s.toInt < 11) = 1 := bI_t gs
      rw [hbs]
      refine iq (by decide) (c12_outside hC ⟨_, rfl, ?_⟩)
      rcases bnd_cases v 0 9999 with ⟨e, g⟩ | ⟨e, g0, g⟩ | ⟨e, g0, g⟩
      · rw [e]
        refine iq (by decide) (op_rfK 4 hC (by omega) (by omega) rfl (wp_X13_table hM (c13_isMeasure hM ⟨_, rfl, ?_⟩)))
        rw [hbm]
        refine iq (by decide) (c13_isSize hM ⟨_, rfl, ?_⟩)
        rw [hbs]
        refine iq (by decide) (c13_bounds hM ⟨_, rfl, ?_⟩)
        rw [e]
        refine ip (by decide) (c13_bounds hM ⟨_, rfl, ?_⟩)
        rw [e]
        exact op_rr 4 hM (by omega) rfl (hr 4 (by omega) (by omega))
      · rw [e]
        refine iq (by decide) (op_rfK 6 hC (by omega) (by omega) rfl (wp_X13_table hM (c13_isMeasure hM ⟨_, rfl, ?_⟩)))
        rw [hbm]
        refine iq (by decide) (c13_isSize hM ⟨_, rfl, ?_⟩)
        rw [hbs]
        refine iq (by decide) (c13_bounds hM ⟨_, rfl, ?_⟩)
        rw [e]
        refine ip (by decide) (c13_bounds hM ⟨_, rfl, ?_⟩)
        rw [e]
        exact op_rr 6 hM (by omega) rfl (hr 6 (by omega) (by omega))
      · rw [e]
        obtain ⟨i, rfl, hi1, ei⟩ := q_of gm.1
        obtain ⟨j, rfl, hj1, ej⟩ := q_of gs.1
        have hi : i < 8 := by omega
        have hj : j < 11 := by omega
        obtain ⟨c, h1, h2, h3⟩ := hT i j hi hj
        have hq11 : (nI i * 11 + nI j : Int32).toNatClampNeg = 11 * i + j := by rw [q_11, q_cl (by omega)]
        -- the reference's part, from any state that has its rows
        have ref : ∀ (K' : z_K) (I' : z_I) (L' : z_L), MLay K' → RE I' I → P K' (logI I' t (nI i) (nI j) v (I 59 0)) L' → OpR n0 xX13_table (d + 2) [.int (nI i), .int (nI j), .int v] K' I' L' (P K') (numV c (I 59 0)) := by
          intro K' I' L' hM' hre hp
          have e59 : I' 59 = I 59 := hre 59 (by omega) (by omega)
          refine wp_X13_table hM' (c13_isMeasure hM' ⟨_, rfl, ?_⟩)
          rw [hbm]
          refine iq (by decide) (c13_isSize hM' ⟨_, rfl, ?_⟩)
          rw [hbs]
          refine iq (by decide) (c13_bounds hM' ⟨_, rfl, ?_⟩)
          rw [e]
          refine iq (by decide) ?_
          rw [e59]
          refine c13_tabledOn hM' (by rw [e59]; exact ht) (by omega) ⟨_, rfl, ?_⟩
          rw [e59, ht, q_cl (by omega), ← nI_succ]
          refine ⟨q_inn (by omega) (by omega), ?_, hp⟩
          rw [h2, tabV_RE hre]
        refine ip rfl ?_
        rw [hd]
        refine c12_numberOn hC hi hj h1 ⟨_, rfl, ?_⟩
        rw [hq11, hd]
        refine ⟨by rw [q_11]; exact q_inn (by omega) (by omega), fun o ho => ?_⟩
        have mk : ∀ (o : Option Nat), K.2.2 2 (11 * i + j) = o → (∀ q, K.2.2 2 (11 * i + j) = some q → ¬ I q 0 = I 59 0) → ∀ b, K.1 = b → ∀ K1, K1 = zN K 11 0 → ∀ I1, I1 = zI0 I b → ∀ L1, L1 = zL0 L b → CLay K1 ∧ RM n0 xX11_init (d + 1) 0 0 [.ref (n0 + b), .int (I1 0 0), .int v, zr n0 o] K1 I1 L1 (fun vv K30 I28 L29 => vv = none ∧ CLay K30 ∧ b < K30.1 ∧ (K30.2.1 b).1 = 11 ∧ OpAQ n0 xX13_table (d + 2) [.int (nI i), .int (nI j), .int v] P (some (.int (numV c (I 59 0)))) (zR K30 2 (11 * i + j) (some b)) I28 L29) := by
          intro o ho hne b hb K1 hK1 I1 hI1 L1 hL1
          obtain ⟨f1, f2, f3, f4, f5⟩ := z_new_ok hb hK1
          obtain ⟨i1, i2⟩ := zI0_ok hI1
          refine ⟨hC.ext (by omega) (fun a ha => f3 a (by omega)) (fun a ha => f4 a (by omega)), c11_init hb hK1 hI1 hL1 (fun K' I' L' hE g1 g2 g3 g4 => ?_)⟩
          have hE' := hE
          obtain ⟨x1, x2, x3, x4, x5, x6⟩ := hE
          have hC2 : CLay K' := hC.ext (by omega) (fun a ha => x3 a (by omega)) (fun a ha => x4 a (by omega))
          have hM2 : MLay K' := hM.ext (by omega) (fun a ha => x3 a (by omega)) (x4 59 (by omega))
          refine ⟨rfl, hC2, by omega, g1, _, rfl, ref _ _ _ (hM2.zR (by omega)) (fun a ha1 ha2 => x5 a (by omega)) ?_⟩
          rw [i1 0 (by omega), hd] at g3
          subst hb
          exact hs2 i j hi hj g0 g hne K' I' L' hE' g1 (by rw [g2, ho]) g3 g4
        cases o with
        | none => exact osn (mk none ho (fun q hq => by rw [ho] at hq; cases hq))
        | some q =>
          have h1' := h1
          cases c with
          | nil => rw [ho] at h1'; cases h1'
          | cons e0 c0 =>
            obtain ⟨q', hq', k1, k2, k3, k4, k5, -, -⟩ := h1'
            rw [ho] at hq'
            cases hq'
            refine oss ⟨k2, k3, ?_⟩
            by_cases gd : I q 0 = I 59 0
            · exact ip gd ⟨_, rfl, ref K _ L hM (RE.rf.z (Or.inr k1)) (hs1 i j q hi hj g0 g ho k1 gd)⟩
            · exact iq gd (mk (some q) ho (fun q2 hq2 => by rw [ho] at hq2; cases hq2; exact gd))
    · rw [bI_f gs]
      refine ip rfl (op_rfK 1 hC (by omega) (by omega) rfl (wp_X13_table hM (c13_isMeasure hM ⟨_, rfl, ?_⟩)))
      rw [hbm]
      refine iq (by decide) (c13_isSize hM ⟨_, rfl, ?_⟩)
      rw [bI_f gs]
      exact ip rfl (op_rr 1 hM (by omega) rfl (hr 1 (by omega) (by omega)))
  · rw [bI_f gm]
    refine ip rfl (op_rfK 1 hC (by omega) (by omega) rfl (wp_X13_table hM (c13_isMeasure hM ⟨_, rfl, ?_⟩)))
    rw [bI_f gm]
    exact ip rfl (op_rr 1 hM (by omega) rfl (hr 1 (by omega) (by omega)))
end TBL
