section BDY
variable {n0 d dr dd mc ms : Nat} {K : z_K} {I : z_I} {L : z_L} {P : z_K → z_I → z_L → Prop}
/-- a body's cells: from b on -/
def BdB (K : z_K) (I : z_I) (b : Nat) (sz : Int32) : Prop := (K.2.1 b).1 = 0 ∧ K.2.1 (b + 1) = (20, 8) ∧ K.2.1 (b + 2) = (20, 40) ∧ K.2.1 (b + 3) = (20, 40) ∧ K.2.1 (b + 4) = (20, 40) ∧ K.2.1 (b + 5) = (20, 30) ∧ K.2.1 (b + 6) = (20, 30) ∧ K.2.1 (b + 7) = (20, 30)
    ∧ K.2.2 b 1 = some (b + 1) ∧ K.2.2 b 2 = some (b + 2) ∧ K.2.2 b 3 = some (b + 3) ∧ K.2.2 b 4 = some (b + 4) ∧ K.2.2 b 6 = some (b + 5) ∧ K.2.2 b 7 = some (b + 6) ∧ K.2.2 b 8 = some (b + 7) ∧ I b 0 = sz ∧ I b 5 = 0 ∧ I b 9 = 0 ∧ ∀ j, j < 8 → I (b + 1) j = -1
set_option maxRecDepth 100000 in
theorem c0_init {Q : z_R} {K0 : z_K} {I0 : z_I} {L0 : z_L} {b : Nat} {sz : Int32} (hb : K0.1 = b) (hK : K = zN K0 0 0) (hI : I = zI0 I0 b) (hL : L = zL0 L0 b) (h : ∀ K' I' L', Ext K0 K' I0 I' L0 L' b 8 → BdB K' I' b sz → Q none K' I' L') : RM n0 xX0_init (d + 1) 7 218 [.ref (n0 + b), .int sz] K I L Q := by
  obtain ⟨f1, f2, f3, f4, f5⟩ := z_new_ok hb hK
  obtain ⟨i1, i2⟩ := zI0_ok hI
  obtain ⟨l1, l2⟩ := zL0_ok hL
  refine ct_X0_init (by omega) f2 ?_
  obtain ⟨a1, a2, a3, a4, a5, a6, a7, a8, a9⟩ := ct_facts b [(1, 20, 8), (2, 20, 40), (3, 20, 40), (4, 20, 40), (6, 20, 30), (7, 20, 30), (8, 20, 30)] (K, I, L) (show b < K.1 by omega) (ct_dis (by decide))
  generalize List.foldl (ctA b) (K, I, L) [(1, 20, 8), (2, 20, 40), (3, 20, 40), (4, 20, 40), (6, 20, 30), (7, 20, 30), (8, 20, 30)] = S at a1 a2 a3 a4 a5 a6 a7 a8 a9 ⊢
  dsimp only at a1 a2 a3 a4 a5 a6 a7 a8 a9
  rw [f1] at a1 a2 a3 a5 a6 a7 a8 a9
  have b0 := a5 0 _ rfl
  have b1 := a5 1 _ rfl
  have b2 := a5 2 _ rfl
  have b3 := a5 3 _ rfl
  have b4 := a5 4 _ rfl
  have b5 := a5 5 _ rfl
  have b6 := a5 6 _ rfl
  have hl1 : S.1.1 = b + 8 := by rw [a1]; rfl
  have hcl : (S.1.2.1 b).1 = 0 := by rw [a2 b (by omega)]; exact f2
  refine z_iconst 0 dX0_init_65 (by decide) ?_
  refine z_istore_n [1, 2, 0] [(0, .ref (n0 + b)), (1, .int sz), (2, .int 0)] dX0_init_66 (by decide) rfl ?_
  show Z n0 xX0_init (d + 1) 0 0 67 [(0, .ref (n0 + b)), (1, .int sz), (2, .int (nI 0))] [] S.1 (zI S.2.1 b 0 sz) S.2.2 Q
  refine c0_init_loop (b := b + 1) (by omega) hcl b0.1 (by omega) b0.2.1 8 0 _ (by omega) (h _ _ _ ⟨hb, hl1, fun a ha => by rw [a2 a (by omega), f3 a ha], fun a ha => by rw [a3 a (by omega) (by omega), f4 a ha], fun a ha => ?_, fun a ha => by rw [a7 a (by omega), l1 a ha]⟩ ⟨hcl, b0.2.1, b1.2.1, b2.2.1, b3.2.1, b4.2.1, b5.2.1, b6.2.1, b0.1, b1.1, b2.1, b3.1, b4.1, b5.1, b6.1, ?_, ?_, ?_, fun j hj => ?_⟩)
  · show (if a = b + 1 then _ else _) = _
    rw [if_neg (by omega), zI_r (by omega), a6 a (by omega), i1 a ha]
  · show (if b = b + 1 then _ else zI S.2.1 b 0 sz b) 0 = _
    rw [if_neg (by omega)]; exact zI_s
  · show (if b = b + 1 then _ else zI S.2.1 b 0 sz b) 5 = _
    rw [if_neg (by omega), zI_d (by omega), a6 b (by omega), i2]
  · show (if b = b + 1 then _ else zI S.2.1 b 0 sz b) 9 = _
    rw [if_neg (by omega), zI_d (by omega), a6 b (by omega), i2]
  · show (if b + 1 = b + 1 then (fun k => if 0 ≤ k ∧ k < 8 then (-1 : Int32) else _) else _) j = _
    rw [if_pos rfl]
    exact if_pos (by omega)
/-- the reference's measures of a new body: rows set to -1 from place j on -/
def m1I (I : z_I) (nb j : Nat) : z_I := fun a => if a = 65 then (fun k => if 8 * nb + j ≤ k ∧ k < 8 * nb + 8 then -1 else I a k) else I a
theorem c13_body_loop {q : z_q} {nb : Nat} (hM : MLay K) (hnb : nb < 12) : ∀ (m j : Nat) (I : z_I), j + m = 8 → I 59 6 = nI nb → q (some (.int (nI nb))) (zI (m1I I nb j) 59 6 (nI (nb + 1))) L → Z n0 xX13_body (d + 1) 0 0 41 [(0, .ref (n0 + 59)), (2, .int (nI j))] [] K I L (z_q0 K q) := by
  intro m
  induction m with
  | zero =>
    intro j I hj hn h
    have : j = 8 := by omega
    subst this
    refine wp_X13_body_41 hM (iq (by decide) ?_)
    have e : m1I I nb 8 = I := by
      funext a k
      unfold m1I
      split
      · show (if 8 * nb + 8 ≤ k ∧ k < 8 * nb + 8 then (-1 : Int32) else I a k) = I a k
        rw [if_neg (by omega)]
      · rfl
    rw [e] at h
    rw [hn, ← nI_succ, nI_pred]
    exact h
  | succ m ih =>
    intro j I hj hn h
    refine wp_X13_body_41 hM (ip (show nI j < nI 8 from nI_lt (by omega) (by omega)) ?_)
    rw [hn, q_8j, q_cl (by omega), ← nI_succ]
    refine ⟨q_inn (by omega) (by omega), ih (j + 1) _ (by omega) (by rw [zI_r (by omega)]; exact hn) ?_⟩
    have e : m1I (zI I 65 (8 * nb + j) (-1)) nb (j + 1) = m1I I nb j := by
      funext a k
      unfold m1I
      by_cases ha : a = 65
      · simp only [if_pos ha]
        by_cases hk : 8 * nb + (j + 1) ≤ k ∧ k < 8 * nb + 8
        · rw [if_pos hk, if_pos (by omega)]
        · rw [if_neg hk, zI_v]
          by_cases hkj : k = 8 * nb + j
          · rw [if_pos ⟨ha, hkj⟩, if_pos (by omega)]
          · rw [if_neg (fun q => hkj q.2), if_neg (by omega)]
      · simp only [if_neg ha]
        rw [zI_r ha]
    rw [e]
    exact h
theorem op_body {s : Int32} {nb : Nat} (hC : CLay K) (hM : MLay K) (h152 : 152 ≤ K.1) (hn : I 0 4 = nI nb) (hn2 : I 59 6 = nI nb) (hb : nb ≤ 12) (hr : ∀ k, 1 ≤ k → k ≤ 7 → P K (rfI I k) L)
    (hs : nb < 12 → ∀ j, j < 11 → s = nI j → ∀ K' I' L', Ext K K' I I' L L' K.1 8 → BdB K' I' K.1 s → P (zR K' 3 nb (some K.1)) (zI (m1I (zI (zI I' 0 4 (nI (nb + 1))) 64 nb s) nb 0) 59 6 (nI (nb + 1))) L') : OpA n0 xX12_body xX13_body (d + 2) (d + 2) 8 228 [.int s] K I L P := by
  refine wp_X12_body hC (c12_isSize hC ⟨_, rfl, ?_⟩)
  by_cases gs : 0 ≤ s.toInt ∧ s.toInt < 11
  · have hbs : bI (0 ≤ s.toInt ∧ s.toInt < 11) = 1 := bI_t gs
    rw [hbs]
    refine iq (by decide) ?_
    by_cases hlt : nb < 12
    · refine ip (by rw [hn]; exact nI_lt (b := 12) hlt (by omega)) (fun b hb2 K1 hK1 I1 hI1 L1 hL1 => ?_)
      obtain ⟨f1, f2, f3, f4, f5⟩ := z_new_ok hb2 hK1
      refine ⟨hC.ext (by omega) (fun a ha => f3 a (by omega)) (fun a ha => f4 a (by omega)), c0_init hb2 hK1 hI1 hL1 (fun K' I' L' hE hBd => ?_)⟩
      have hE' := hE
      obtain ⟨x1, x2, x3, x4, x5, x6⟩ := hE
      have hC2 : CLay K' := hC.ext (by omega) (fun a ha => x3 a (by omega)) (fun a ha => x4 a (by omega))
      have hM2 : MLay K' := hM.ext (by omega) (fun a ha => x3 a (by omega)) (x4 59 (by omega))
      have y0 : I' 0 = I 0 := x5 0 (by omega)
      have y59 : I' 59 = I 59 := x5 59 (by omega)
      refine ⟨rfl, hC2, by rw [hn]; exact q_inn (by omega) (by omega), by omega, hBd.1, _, rfl, ?_⟩
      rw [y0, hn, q_cl (by omega), ← nI_succ]
      have z59 : ∀ j, (zI I' 0 4 (nI (nb + 1))) 59 j = I 59 j := fun j => by rw [zI_r (by omega), y59]
      have hM3 : MLay (zR K' 3 nb (some b)) := hM2.zR (by omega)
      refine wp_X13_body hM3 (c13_isSize hM3 ⟨_, rfl, ?_⟩)
      rw [hbs]
      refine iq (by decide) (iq ?_ ?_)
      · rw [z59, hn2]
        intro z
        have := q_eq.mp z
        rw [q_nI (by omega)] at this
        have e2' : (12 : Int32).toInt = 12 := rfl
        omega
      · rw [z59, hn2, q_cl (by omega)]
        refine ⟨q_inn (by omega) (by omega), c13_body_loop (nb := nb) hM3 hlt 8 0 _ (by omega) (by rw [zI_r (by omega), z59, hn2]) ⟨rfl, ?_⟩⟩
        obtain ⟨j, hj, hj1, ej⟩ := q_of gs.1
        subst hb2
        exact hs hlt j (by omega) hj K' I' L' hE' hBd
    · have : nb = 12 := by omega
      subst this
      refine iq (by rw [hn]; decide) (op_rfK 6 hC (by omega) (by omega) rfl (wp_X13_body hM (c13_isSize hM ⟨_, rfl, ?_⟩)))
      rw [hbs]
      refine iq (by decide) (ip ?_ (op_rr 6 hM (by omega) rfl (hr 6 (by omega) (by omega))))
      show (I 59 6) = 12
      rw [hn2]; rfl
  · rw [bI_f gs]
    refine ip rfl (op_rfK 1 hC (by omega) (by omega) rfl (wp_X13_body hM (c13_isSize hM ⟨_, rfl, ?_⟩)))
    rw [bI_f gs]
    exact ip rfl (op_rr 1 hM (by omega) rfl (hr 1 (by omega) (by omega)))
end BDY
