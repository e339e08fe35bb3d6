/-! row of piece -/
section RW9
variable {n0 c : Nat} {K K' : z_K} {I J : z_I} {L : z_L} {p0 p1 p2 : Int32}
theorem lastR_no {rp rk : Nat → Nat} {p k : Nat} : ∀ n, (∀ r, r < n → rp r ≠ p) → lastR rp rk p k n = none
  | 0, _ => rfl
  | n + 1, h => by
    show (if rp n = p ∧ rk n = k then some n else lastR rp rk p k n) = none
    rw [if_neg (fun z => h n (by omega) z.1)]
    exact lastR_no n (fun r hr => h r (by omega))
theorem rw_piece (h : Inv c K I) : OpU n0 xX12_piece xX13_piece [.int p0, .int p1, .int p2] K I L (Iv (c + 1)) := by
  have h' := h
  obtain ⟨hC0, hM0⟩ := h.lay
  obtain ⟨np, nb, pid, pts, bid, hA, ⟨ns, sid, s1, s2, sa, sb, sc, se, nc, b1, b2, b3, b4⟩, ⟨ne, eid, lc, hp, wc, wi, hz, c1, c2, c3, c4, c5⟩, hT, ⟨N, mp, ms, q1, q2, q3, q4⟩, _, _, _, _, _, hG, _, _⟩ := h
  have h152 := hA.lay.2.2
  obtain ⟨nr, na, t, rid, rp, rk, ln, cx, cy, m, par, X, Y, A, ⟨g1, g2, g3, g4, g5, g6, g7, g8, g9, g10, g11, g12, g13, g14, g15, g16, g17⟩, hB, ht⟩ := hA
  refine (op_piece (d := 0) (P := Iv (c + 1)) hC0 hM0 h152 g4 g5 (fun i hi => (g6 i hi).2.1) h'.hr (fun h16 e3 e10 blk hbk K1 I1 L1 hx hb => ?_)).U (by omega) (by omega) (by omega) (by omega)
  obtain ⟨_, x1, x2, x3, x4⟩ := hx.sh
  obtain ⟨y1, y2, y3, y4, y5, y6, y7, z1, z2, z3, z4, z5, z6, kn, k3, i0, i1, i2, i4, iz⟩ := hb
  obtain ⟨n, n1, n2, n3⟩ := q_of (show 0 ≤ p1.toInt by omega)
  obtain ⟨po, po1, po2⟩ : ∃ po : Option Nat, (po = none → p0 ≠ 3 ∧ blk = none) ∧ ∀ b, po = some b → b < np ∧ p0 = 3 ∧ p2 = nI b ∧ blk = some (pid b) := by
    rcases hbk with ⟨e, i, hi, e2, e3, _⟩ | ⟨e, e2, e3, e4⟩
    · exact ⟨some i, fun z => (by cases z), fun b z => (by cases z; exact ⟨hi, e, e2, e3⟩)⟩
    · exact ⟨none, fun _ => ⟨fun z => (by rw [z] at e2; exact absurd e2 (by decide)), e4⟩, fun b z => (by cases z)⟩
  clear hbk
  have hC1 : CLay (zR K1 4 np (some K.1)) := CLay.zR (hC0.ext (by omega) (fun a ha => x2 a (by omega)) (fun a ha => x3 a (by omega))) (by decide)
  have hM1 : MLay (zR K1 4 np (some K.1)) := MLay.zR (hM0.ext (by omega) (fun a ha => x2 a (by omega)) (x3 59 (by omega))) (by omega)
  have kr : ∀ a j, a < K.1 → a ≠ 4 → (zR K1 4 np (some K.1)).2.2 a j = K.2.2 a j := fun a j z1 z2 => by
    rw [zR_ne z2, x3 a z1]
  have kn' : ∀ a j, K.1 ≤ a → (zR K1 4 np (some K.1)).2.2 a j = K1.2.2 a j := fun a j z => by rw [zR_ne (by omega)]
  have hke : KE K (zR K1 4 np (some K.1)) np nb := ⟨hC1, hM1, by show K.1 ≤ K1.1; omega, x2, fun p hp => by rw [zR_o (by omega), x3 4 (by omega)], fun b hb => kr 3 b (by omega) (by omega), fun p => kr 2 p (by omega) (by omega), fun a j z z1 _ => kr a j z1 (by omega)⟩
  have f0 : Fz (fun a j => K.1 ≤ a) I I1 := fun a j z => by rw [x4 a (by omega)]
  generalize hJ : pcI (zI I1 0 8 (nI (np + 1))) np p0 p1 p2 = J
  have f : Fz (fun a j => K.1 ≤ a ∨ (a = 0 ∧ j = 8) ∨ (a = 59 ∧ j = 9) ∨ (66 ≤ a ∧ a ≤ 68 ∧ j = np)) I J := by
    rw [← hJ]
    unfold pcI
    refine Fz.z (Fz.z (Fz.z (Fz.z (Fz.z (f0.mono (fun a j z => Or.inl z)) ?_) ?_) ?_) ?_) ?_ <;> omega
  have jn : ∀ a j, K.1 ≤ a → J a j = I1 a j := fun a j z => by
    rw [← hJ]
    unfold pcI
    rw [zI_r (by omega), zI_r (by omega), zI_r (by omega), zI_r (by omega), zI_r (by omega)]
  have j8 : J 0 8 = nI (np + 1) := by rw [← hJ]; simp [pcI, zI_if]
  have j9 : J 59 9 = nI (np + 1) := by rw [← hJ]; simp [pcI, zI_if]
  have j66 : J 66 np = p0 := by rw [← hJ]; simp [pcI, zI_if]
  have j67 : J 67 np = p1 := by rw [← hJ]; simp [pcI, zI_if]
  have j68 : J 68 np = p2 := by rw [← hJ]; simp [pcI, zI_if]
  clear hJ
  have er : ∀ a, a < K.1 → a ≠ 0 → a ≠ 59 → ¬ (66 ≤ a ∧ a ≤ 68) → J a = I a := fun a z1 z2 z3 z4 => funext fun j => f a j (by omega)
  have o : ∀ {P : Nat → Nat → Nat → Prop} (a j : Nat), (K.1 ≤ a ∨ (a = 0 ∧ j = 8) ∨ (a = 59 ∧ j = 9) ∨ (66 ≤ a ∧ a ≤ 68 ∧ j = np)) → 152 ≤ a → a < K.1 → ∃ o, Hm K a o ∧ P a j o := fun a j y z _ => by omega
  obtain ⟨v1, v2, v3, ⟨u1, u2, u3⟩, ⟨w1, w2, w3⟩, zz1, zz2, zz3, zz4⟩ := h'.vD.2
  have w4 := z_nat g5.2.1 w1 (by omega) (by omega)
  subst w4
  obtain ⟨r1, r2, r3, r4, r5, r6, r7⟩ := h'.sr f (fun a j z => by unfold rsS byS twS cdS seS clS at z; omega) ⟨np + 1, v2, v3, ⟨by omega, u2, u3⟩, ⟨j9, by rw [f 59 62 (by omega)]; exact w2, by rw [f 59 114 (by omega)]; exact w3⟩, fun j hj => by rw [f 69 j (by omega)]; exact zz1 j (by omega), fun j hj => by rw [f 70 j (by omega), f 71 j (by omega), f 72 j (by omega), f 73 j (by omega), f 74 j (by omega)]; exact zz2 j (by omega), fun j hj => by rw [f 106 j (by omega), f 107 j (by omega)]; exact zz3 j hj, fun j hj => by rw [f 140 j (by omega), f 143 j (by omega)]; exact zz4 j hj⟩
  have k1 : K.1 ≤ K1.1 := by omega
  have pl : ∀ p, p < np → 152 ≤ pid p ∧ pid p + 6 < K.1 := fun p hp => ⟨g4.ge hp, g4.lt hp⟩
  have bl : ∀ p, p < nb → 152 ≤ bid p ∧ bid p + 7 < K.1 := fun p hp => ⟨g10.ge hp, g10.lt hp⟩
  have rl : ∀ r, r < nr → 152 ≤ rid r ∧ rid r + 2 < K.1 := fun r hr => by
    obtain ⟨d1, d2, d3, d4, d5, d6, d7, d8, d9⟩ := g7.2.2.2.1 r hr
    obtain ⟨a1, a2, a3, a4, a5, b1, b2, b3, b4, b5, c1, c2, c3, c4, c5⟩ := g8 r hr
    have := ht.2 r hr
    omega
  have hS0 := IvS.fz (K' := zR K1 4 np (some K.1)) ⟨ns, sid, s1, s2, sa, sb, sc, se, nc, b1, b2, b3, b4⟩ k1 x2 (fun j => kr 21 j (by omega) (by omega)) (fun a j z z1 _ => kr a j z1 (by omega)) f (fun a j z => by unfold smS at z; omega) o
  have hE0 := IvE.fz (K' := zR K1 4 np (some K.1)) ⟨ne, eid, lc, hp, wc, wi, hz, c1, c2, c3, c4, c5⟩ k1 x2 (fun j => kr 51 j (by omega) (by omega)) (fun a j z z1 _ => kr a j z1 (by omega)) f (fun a j z => by unfold edS at z; omega) o
  clear b1 b2 b3 b4 c1 c2 c3 c4 c5
  obtain ⟨ns, sid, s1, s2, sa, sb, sc, se, nc, b1, b2, b3, b4⟩ := hS0
  obtain ⟨ne, eid, lc, hp, wc, wi, hz, c1, c2, c3, c4, c5⟩ := hE0
  have hPK : PcK (zR K1 4 np (some K.1)) (np + 1) (fun p => if p = np then K.1 else pid p) := by
    refine ⟨by omega, fun b hb => ?_, fun p q hp hq e => ?_⟩
    · by_cases y : b = np
      · subst y
        simp only [if_true]
        refine ⟨zR_e, by omega, by show K.1 + 6 < K1.1; omega, y1, y2, y3, y4, y5, y6, y7, ?_⟩
        simp only [kn' K.1 _ (Nat.le_refl _)]
        exact ⟨z1, z2, z3, z4, z5, z6⟩
      · simp only [if_neg y]
        exact (g4.ke hke).2.1 b (by omega)
    · by_cases y : p = np <;> by_cases z : q = np
      · omega
      · have := pl q (by omega)
        simp only [if_pos y, if_neg z] at e
        omega
      · have := pl p (by omega)
        simp only [if_pos z, if_neg y] at e
        omega
      · simp only [if_neg y, if_neg z] at e
        exact g4.2.2 p q (by omega) (by omega) e
  have hPN : PcN J (np + 1) (fun p => if p = np then K.1 else pid p) (fun p => if p = np then n else pts p) := by
    refine ⟨j8, j9, fun i hi => ?_⟩
    by_cases y : i = np
    · subst y
      simp only [if_true]
      exact ⟨by rw [jn K.1 2 (by omega), i2]; exact n1, by rw [j67]; exact n1, by omega, by omega⟩
    · simp only [if_neg y]
      have := pl i (by omega)
      rw [f (pid i) 2 (by omega), f 67 i (by omega)]
      exact g5.2.2 i (by omega)
  have hBl : BlK (zR K1 4 np (some K.1)) J (np + 1) (fun p => if p = np then K.1 else pid p) (fun q => if q = np then po else par q) := by
    intro q hq
    by_cases y : q = np
    · subst y
      simp only [if_true]
      rw [jn K.1 0 (by omega), jn K.1 1 (by omega), j66, j68, kn' _ _ (Nat.le_refl _), i0, i1, k3]
      refine ⟨rfl, rfl, po1, fun b hb => ?_⟩
      obtain ⟨a1, a2, a3, a4⟩ := po2 b hb
      simp only [if_neg (show b ≠ q by omega)]
      exact ⟨a1, a2, a3, a4⟩
    · simp only [if_neg y]
      have := pl q (by omega)
      obtain ⟨a1, a2, a3, a4⟩ := g6 q (by omega)
      rw [f (pid q) 0 (by omega), f (pid q) 1 (by omega), f 66 q (by omega), f 68 q (by omega), kr _ _ (by omega) (by omega)]
      refine ⟨a1, a2, a3, fun b hb => ?_⟩
      obtain ⟨d1, d2, d3, d4⟩ := a4 b hb
      simp only [if_neg (show b ≠ np by omega)]
      exact ⟨d1, d2, d3, d4⟩
  have hRl : RlK (zR K1 4 np (some K.1)) J nr (np + 1) (fun p => if p = np then K.1 else pid p) rid rp rk := by
    obtain ⟨a, b, c, d, e⟩ := g7.ag (K' := zR K1 4 np (some K.1)) (I' := J) k1 x2 (fun r hr => kr _ _ (by have := rl r hr; omega) (by have := rl r hr; omega)) (fun p k hp _ => kr _ _ (by have := pl p hp; omega) (by have := pl p hp; omega)) (f 0 9 (by omega)) (f 59 22 (by omega)) (er 79 (by omega) (by omega) (by omega) (by omega)) (er 80 (by omega) (by omega) (by omega) (by omega)) (er 81 (by omega) (by omega) (by omega) (by omega)) (fun r hr => f _ _ (by have := rl r hr; omega))
    refine ⟨a, b, c, fun r hr => ?_, fun p k hp hk => ?_⟩
    · obtain ⟨d1, d2⟩ := d r hr
      exact ⟨by omega, d2⟩
    · by_cases y : p = np
      · subst y
        simp only [if_true]
        rw [kn' _ _ (by omega), kn, lastR_no nr (fun r hr => by have := (d r hr).1; omega)]
        rfl
      · simp only [if_neg y]
        exact e p k (by omega) hk
  have hPG : PcG J (np + 1) (fun p => if p = np then K.1 else pid p) := by
    intro p k hp hk
    by_cases y : p = np
    · subst y
      simp only [if_true]
      rw [jn (K.1 + 2) _ (by omega), jn (K.1 + 3) _ (by omega), jn (K.1 + 4) _ (by omega), jn (K.1 + 5) _ (by omega), jn (K.1 + 6) _ (by omega), f 70 _ (by omega), f 71 _ (by omega), f 72 _ (by omega), f 73 _ (by omega), f 74 _ (by omega)]
      obtain ⟨a1, a2, a3, a4, a5⟩ := zz2 (10 * p + k) (by omega)
      rw [a1, a2, a3, a4, a5]
      exact ⟨iz 1 (by omega) k, iz 2 (by omega) k, iz 3 (by omega) k, iz 4 (by omega) k, iz 5 (by omega) k⟩
    · simp only [if_neg y]
      have := pl p (by omega)
      rw [f (pid p + 2) _ (by omega), f (pid p + 3) _ (by omega), f (pid p + 4) _ (by omega), f (pid p + 5) _ (by omega), f (pid p + 6) _ (by omega), f 70 _ (by omega), f 71 _ (by omega), f 72 _ (by omega), f 73 _ (by omega), f 74 _ (by omega)]
      exact g9 p k (by omega) hk
  have hWB : WdB J (np + 1) A := by
    refine ⟨fun p k hp hk => ?_, hB.2⟩
    rw [f 70 _ (by omega), f 71 _ (by omega), f 73 _ (by omega), f 74 _ (by omega)]
    by_cases y : p = np
    · subst y
      obtain ⟨a1, a2, a3, a4, a5⟩ := zz2 (10 * p + k) (by omega)
      rw [a1, a2, a4, a5]
      exact ⟨by decide, by decide, by decide, by decide⟩
    · exact hB.1 p k (by omega) hk
  refine ⟨np + 1, nb, fun p => if p = np then K.1 else pid p, fun p => if p = np then n else pts p, bid, ⟨nr, na, t, rid, rp, rk, ln, cx, cy, m, fun q => if q = np then po else par q, X, Y, A, ⟨hC1, hM1, by show 152 ≤ K1.1; omega, hPK, hPN, hBl, hRl, g8.ag k1 x2 (fun r hr => by have := rl r hr; exact ⟨kr _ _ (by omega) (by omega), kr _ _ (by omega) (by omega)⟩) (er 77 (by omega) (by omega) (by omega) (by omega)) (er 78 (by omega) (by omega) (by omega) (by omega)) (fun r hr => by have := rl r hr; have := ht.2 r hr; exact ⟨er _ (by omega) (by omega) (by omega) (by omega), er _ (by omega) (by omega) (by omega) (by omega)⟩), hPG, g10.ke hke, ⟨by rw [f 0 4 (by omega)]; exact g11.1, by rw [f 59 6 (by omega)]; exact g11.2⟩, g12.ag (f 0 5 (by omega)) (f 59 49 (by omega)) (fun a z1 z2 => er a (by omega) (by omega) (by omega) (by omega)) (fun i hi => by have := bl i hi; exact ⟨f _ _ (by omega), er _ (by omega) (by omega) (by omega) (by omega), er _ (by omega) (by omega) (by omega) (by omega), er _ (by omega) (by omega) (by omega) (by omega)⟩), by rw [f 0 0 (by omega), f 59 0 (by omega)]; exact g13, by rw [f 59 1 (by omega)]; exact g14, g15, g16.ag hke f (fun a j z1 z2 z3 => by omega) (fun a z1 z2 => er a (by omega) (by omega) (by omega) (by omega)) (by rw [f 59 0 (by omega)]; omega), g17.ag (er 64 (by omega) (by omega) (by omega) (by omega)) (er 65 (by omega) (by omega) (by omega) (by omega)) (fun i hi => by have := bl i hi; exact ⟨f _ _ (by omega), er _ (by omega) (by omega) (by omega) (by omega)⟩)⟩, hWB, ⟨by omega, ht.1.2.ke hke.2.2.1 x2 hke.2.2.2.2.2.2.1 (fun a j a1 a2 a3 => hke.2.2.2.2.2.2.2 a j a1 a2 (by rw [a3]; decide))⟩, ht.2⟩, ⟨ns, sid, s1, s2, sa, sb, sc, se, nc, b1, b2, fun s hs => ?_, b4⟩, ⟨ne, eid, lc, hp, wc, wi, hz, c1, c2, c3, fun s hs => ?_, c5⟩, hT.fz g10 f (fun a j z => by unfold trM2 at z; omega) o, ⟨N, mp, ms, q1, by rw [f 25 4 (by omega)]; exact q2, by rw [f 59 89 (by omega)]; exact q3, fun i hi => ?_⟩, r1, r2, r3, r4, r5, fun i hi => ?_, r6, r7⟩
  · obtain ⟨a1, a2, a3⟩ := b3 s hs
    simp only [if_neg (show s1 s ≠ np by omega), if_neg (show s2 s ≠ np by omega)]
    exact ⟨by omega, by omega, a3⟩
  · obtain ⟨a1, a2, a3, a4⟩ := c4 s hs
    refine ⟨a1, a2, a3, fun i hi => ?_⟩
    obtain ⟨d1, d2⟩ := a4 i hi
    simp only [if_neg (show hp s i ≠ np by omega)]
    exact ⟨by omega, d2⟩
  · obtain ⟨a1, a2, a3, a4, a5, a6⟩ := q4 i hi
    simp only [if_neg (show mp i ≠ np by omega)]
    exact ⟨by omega, a2, by rw [kr 27 i (by omega) (by omega)]; exact a3, by rw [f 28 i (by omega)]; exact a4, by rw [f 117 i (by omega)]; exact a5, by rw [f 118 i (by omega)]; exact a6⟩
  · by_cases y : i = np
    · subst y
      simp only [if_true]
      rw [jn K.1 4 (by omega), f 69 i (by omega), zz1 i (by omega)]
      exact i4
    · simp only [if_neg y]
      have := pl i (by omega)
      rw [f (pid i) 4 (by omega), f 69 i (by omega)]
      exact hG i (by omega)
end RW9
