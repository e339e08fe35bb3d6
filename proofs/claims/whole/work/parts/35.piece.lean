section PCE
variable {n0 d : Nat} {K : z_K} {I : z_I} {L : z_L} {np : Nat} {q : z_q} {p0 p1 p2 : Int32}
def pcT (n0 d : Nat) (K : z_K) (I : z_I) (L : z_L) (np : Nat) (q : z_q) (p0 p1 p2 : Int32) : Prop := (if p1 < 3 then RM0 n0 xX13_refuse d [.ref (n0 + 59), .int (-4)] K I L (fun vv I1 L1 => ∃ r : Int32, vv = some (.int r) ∧ q (some (.int r)) I1 L1) else if 10 < p1 then RM0 n0 xX13_refuse d [.ref (n0 + 59), .int (-6)] K I L (fun vv I1 L1 => ∃ r : Int32, vv = some (.int r) ∧ q (some (.int r)) I1 L1) else if np = 16 then RM0 n0 xX13_refuse d [.ref (n0 + 59), .int (-6)] K I L (fun vv I1 L1 => ∃ r : Int32, vv = some (.int r) ∧ q (some (.int r)) I1 L1) else q (some (.int (nI np))) (zI (zI (zI (zI I 66 np p0) 67 np p1) 68 np p2) 59 9 (nI (np + 1))) L)
theorem pcT_e (h16 : np ≤ 16) (h : pcT n0 d K I L np q p0 p1 p2) : (if p1 < 3 then RM0 n0 xX13_refuse d [.ref (n0 + 59), .int (-4)] K I L (fun vv I1 L1 => ∃ r : Int32, vv = some (.int r) ∧ q (some (.int r)) I1 L1) else if 10 < p1 then RM0 n0 xX13_refuse d [.ref (n0 + 59), .int (-6)] K I L (fun vv I1 L1 => ∃ r : Int32, vv = some (.int r) ∧ q (some (.int r)) I1 L1) else if nI np = 16 then RM0 n0 xX13_refuse d [.ref (n0 + 59), .int (-6)] K I L (fun vv I1 L1 => ∃ r : Int32, vv = some (.int r) ∧ q (some (.int r)) I1 L1) else vp_in (nI np) 16 ∧ q (some (.int (nI np + 1 - 1))) (zI (zI (zI (zI I 66 (nI np).toNatClampNeg p0) 67 (nI np).toNatClampNeg p1) 68 (nI np).toNatClampNeg p2) 59 9 (nI np + 1)) L) := by
  unfold pcT at h
  by_cases h1 : p1 < 3
  · rw [if_pos h1] at h ⊢; exact h
  rw [if_neg h1] at h ⊢
  by_cases h2 : 10 < p1
  · rw [if_pos h2] at h ⊢; exact h
  rw [if_neg h2] at h ⊢
  by_cases h3 : np = 16
  · rw [if_pos h3] at h
    rw [if_pos (by rw [h3]; rfl)]; exact h
  · rw [if_neg h3] at h
    rw [if_neg (fun z => h3 (by have := q_eq.mp z; rw [q_nI (by omega)] at this; have e2' : (16 : Int32).toInt = 16 := rfl; omega)), q_cl (by omega), ← nI_succ, nI_pred]
    exact ⟨q_inn (by omega) (by omega), h⟩
theorem c13_in_3 {p : Int32} {Q : z_q} (hM : MLay K) (hq : Q (some (.int (bI (0 ≤ p.toInt ∧ p.toInt ≤ 3)))) I L) : RM0 n0 xX13_in d [.long p.toInt64, .long 0, .long 3] K I L Q := by
  refine c13_in hM ?_
  rw [bI_c (q := 0 ≤ p.toInt ∧ p.toInt ≤ 3) (by rw [q_i2l]; show (0 ≤ _ ∧ _ ≤ 3) ↔ _; omega)]
  exact hq
theorem c13_piece (hM : MLay K) (hn : I 59 9 = nI np) (h16 : np ≤ 16) (h : if ¬ (0 ≤ p0.toInt ∧ p0.toInt ≤ 3) then RM0 n0 xX13_refuse (d + 1) [.ref (n0 + 59), .int (-2)] K I L (fun vv I1 L1 => ∃ r : Int32, vv = some (.int r) ∧ q (some (.int r)) I1 L1) else if p0 = 3 then (if ¬ (0 ≤ p2.toInt ∧ p2.toInt < np) then RM0 n0 xX13_refuse (d + 1) [.ref (n0 + 59), .int (-1)] K I L (fun vv I1 L1 => ∃ r : Int32, vv = some (.int r) ∧ q (some (.int r)) I1 L1) else if I 66 p2.toNatClampNeg = 0 ∨ I 66 p2.toNatClampNeg = 3 then pcT n0 (d + 1) K I L np q p0 p1 p2 else RM0 n0 xX13_refuse (d + 1) [.ref (n0 + 59), .int (-1)] K I L (fun vv I1 L1 => ∃ r : Int32, vv = some (.int r) ∧ q (some (.int r)) I1 L1)) else if p2 = (-1) then pcT n0 (d + 1) K I L np q p0 p1 p2 else RM0 n0 xX13_refuse (d + 1) [.ref (n0 + 59), .int (-3)] K I L (fun vv I1 L1 => ∃ r : Int32, vv = some (.int r) ∧ q (some (.int r)) I1 L1)) :
    RM0 n0 xX13_piece (d + 2) [.ref (n0 + 59), .int p0, .int p1, .int p2] K I L q := by
  have c3 : (3 : Int32).toInt = 3 := rfl
  refine wp_X13_piece hM (c13_in_3 hM ⟨_, rfl, ?_⟩)
  by_cases g : 0 ≤ p0.toInt ∧ p0.toInt ≤ 3
  · rw [if_neg (fun z => z g)] at h
    rw [bI_t g]
    refine iq (by decide) ?_
    by_cases g3 : p0 = 3
    · rw [if_pos g3] at h
      refine ip g3 (c13_isPiece hM hn (by omega) ⟨_, rfl, ?_⟩)
      by_cases g2 : 0 ≤ p2.toInt ∧ p2.toInt < np
      · rw [if_neg (fun z => z g2)] at h
        rw [bI_t g2, hn]
        refine iq (by decide) ⟨q_in g2.1 (by omega), ?_⟩
        have hn3 : ¬ p0 < 3 := fun z => by have := q_lt.mp z; rw [g3] at this; omega
        by_cases k0 : I 66 p2.toNatClampNeg = 0
        · rw [if_pos (Or.inl k0)] at h
          exact ip k0 (iq hn3 (pcT_e h16 h))
        · by_cases k3 : I 66 p2.toNatClampNeg = 3
          · rw [if_pos (Or.inr k3)] at h
            exact iq k0 (ip k3 (iq hn3 (pcT_e h16 h)))
          · rw [if_neg (fun z => z.elim k0 k3)] at h
            exact iq k0 (iq k3 h)
      · rw [if_pos g2] at h
        rw [bI_f g2]
        exact ip rfl h
    · rw [if_neg g3] at h
      have hl3 : p0 < 3 := q_lt.mpr (by have := mt q_eq.mpr g3; omega)
      rw [hn]
      refine iq g3 (ip hl3 ?_)
      by_cases gm : p2 = (-1)
      · rw [if_pos gm] at h
        exact ip gm (pcT_e h16 h)
      · rw [if_neg gm] at h
        exact iq gm h
  · rw [if_pos g] at h
    rw [bI_f g]
    exact ip rfl h
/-- a new piece's cells: from b on -/
def PcB (K : z_K) (I : z_I) (b : Nat) (no kd pt : Int32) (blk : Option Nat) : Prop := (K.2.1 b).1 = 5 ∧ K.2.1 (b + 1) = (36, 10) ∧ K.2.1 (b + 2) = (20, 10) ∧ K.2.1 (b + 3) = (20, 10) ∧ K.2.1 (b + 4) = (21, 10) ∧ K.2.1 (b + 5) = (20, 10) ∧ K.2.1 (b + 6) = (20, 10)
    ∧ K.2.2 b 5 = some (b + 1) ∧ K.2.2 b 6 = some (b + 2) ∧ K.2.2 b 7 = some (b + 3) ∧ K.2.2 b 8 = some (b + 4) ∧ K.2.2 b 9 = some (b + 5) ∧ K.2.2 b 10 = some (b + 6) ∧ (∀ k, K.2.2 (b + 1) k = none) ∧ K.2.2 b 3 = blk ∧ I b 0 = no ∧ I b 1 = kd ∧ I b 2 = pt ∧ I b 4 = 0 ∧ ∀ t, t < 6 → ∀ k, I (b + 1 + t) k = 0
set_option maxRecDepth 100000 in
theorem c5_init {Q : z_R} {K0 : z_K} {I0 : z_I} {L0 : z_L} {b : Nat} {no kd pt : Int32} {pr : Option Nat} (hb : K0.1 = b) (hK : K = zN K0 5 0) (hI : I = zI0 I0 b) (hL : L = zL0 L0 b) (h : ∀ K' I' L', Ext K0 K' I0 I' L0 L' b 7 → PcB K' I' b no kd pt (if kd = 3 then pr else none) → Q none K' I' L') : RM n0 xX5_init (d + 1) 6 60 [.ref (n0 + b), .int no, .int kd, .int pt, zr n0 pr] K I L Q := by
  obtain ⟨f1, f2, f3, f4, f5⟩ := z_new_ok hb hK
  obtain ⟨i1, i2⟩ := zI0_ok hI
  obtain ⟨l1, l2⟩ := zL0_ok hL
  have key : ∀ blk : Option Nat, (if kd = 3 then pr else none) = blk → Q none (List.foldl (ctA b) (zR K b 3 blk, zI (zI (zI I b 0 no) b 1 kd) b 2 pt, L) [(5, 36, 10), (6, 20, 10), (7, 20, 10), (8, 21, 10), (9, 20, 10), (10, 20, 10)]).1 (List.foldl (ctA b) (zR K b 3 blk, zI (zI (zI I b 0 no) b 1 kd) b 2 pt, L) [(5, 36, 10), (6, 20, 10), (7, 20, 10), (8, 21, 10), (9, 20, 10), (10, 20, 10)]).2.1 (List.foldl (ctA b) (zR K b 3 blk, zI (zI (zI I b 0 no) b 1 kd) b 2 pt, L) [(5, 36, 10), (6, 20, 10), (7, 20, 10), (8, 21, 10), (9, 20, 10), (10, 20, 10)]).2.2 := by
    intro blk hblk
    rw [hblk] at h
    obtain ⟨a1, a2, a3, a4, a5, a6, a7, a8, a9⟩ := ct_facts b [(5, 36, 10), (6, 20, 10), (7, 20, 10), (8, 21, 10), (9, 20, 10), (10, 20, 10)] (zR K b 3 blk, zI (zI (zI I b 0 no) b 1 kd) b 2 pt, L) (show b < K.1 by omega) (ct_dis (by decide))
    generalize List.foldl (ctA b) (zR K b 3 blk, zI (zI (zI I b 0 no) b 1 kd) b 2 pt, L) [(5, 36, 10), (6, 20, 10), (7, 20, 10), (8, 21, 10), (9, 20, 10), (10, 20, 10)] = S at a1 a2 a3 a4 a5 a6 a7 a8 a9 ⊢
    dsimp only at a1 a2 a3 a4 a5 a6 a7 a8 a9
    have f1' : (zR K b 3 blk).1 = b + 1 := f1
    rw [f1'] at a1 a2 a3 a5 a6 a7 a8 a9
    have b0 := a5 0 _ rfl
    have b1 := a5 1 _ rfl
    have b2 := a5 2 _ rfl
    have b3 := a5 3 _ rfl
    have b4 := a5 4 _ rfl
    have b5 := a5 5 _ rfl
    refine h _ _ _ ⟨hb, by rw [a1]; rfl, fun a ha => ?_, fun a ha => ?_, fun a ha => ?_, fun a ha => by rw [a7 a (by omega), l1 a ha]⟩ ⟨?_, b0.2.1, b1.2.1, b2.2.1, b3.2.1, b4.2.1, b5.2.1, b0.1, b1.1, b2.1, b3.1, b4.1, b5.1, b0.2.2, ?_, ?_, ?_, ?_, ?_, fun t ht k => a8 t ht k⟩
    · rw [a2 a (by omega)]; exact f3 a ha
    · rw [a3 a (by omega) (by omega), zR_ne (by omega), f4 a ha]
    · rw [a6 a (by omega), zI_r (by omega), zI_r (by omega), zI_r (by omega), i1 a ha]
    · rw [a2 b (by omega)]; exact f2
    · rw [a4 3 (by decide), zR_e]
    · rw [a6 b (by omega), zI_d (by omega), zI_d (by omega), zI_s]
    · rw [a6 b (by omega), zI_d (by omega), zI_s]
    · rw [a6 b (by omega), zI_s]
    · rw [a6 b (by omega), zI_d (by omega), zI_d (by omega), zI_d (by omega), i2]
  by_cases g : kd = 3
  · exact ct_X5_init_3 (by omega) f2 g (key pr (if_pos g))
  · exact ct_X5_init_n (by omega) f2 g (key none (if_neg g))
end PCE
