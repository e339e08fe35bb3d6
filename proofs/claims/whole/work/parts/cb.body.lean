/-! row of body -/
section RW8
variable {n0 c : Nat} {K K' : z_K} {I J : z_I} {L : z_L} {S : Nat → Nat → Prop} {np nr nb na t ns ne : Nat} {pid pts rid rp rk ln cx cy bid m : Nat → Nat} {par : Nat → Option Nat} {X Y : Nat → List Int32} {A : Int32 → Int32 → Option (Int32 × Int32)} {p0 p1 p2 p3 p4 p5 p6 p7 : Int32}
theorem tcn_0 {tb : Nat → Nat} {i : Nat} : ∀ n, (∀ k, k < n → tb k ≠ i) → tcn tb i n = 0
  | 0, _ => rfl
  | n + 1, h => by
    show tcn tb i n + (if tb n = i then 1 else 0) = 0
    rw [tcn_0 n (fun k hk => h k (by omega)), if_neg (h n (by omega))]
theorem rw_body (h : Inv c K I) : OpU n0 xX12_body xX13_body [.int p0] K I L (Iv (c + 1)) := by
  have h' := h
  obtain ⟨hC0, hM0⟩ := h.lay
  obtain ⟨np, nb, pid, pts, bid, hA, hS, hE, ⟨nt, tp, tb, ta, te, t1, t2, t3, t4, t5⟩, hM, _, _, _, _, _, hG, _, _⟩ := h
  have h152 := hA.lay.2.2
  obtain ⟨nr, na, t, rid, rp, rk, ln, cx, cy, m, par, X, Y, A, ⟨g1, g2, g3, g4, g5, g6, g7, g8, g9, g10, g11, g12, g13, g14, g15, g16, g17⟩, hB, ht⟩ := hA
  refine (op_body (d := 0) (P := Iv (c + 1)) hC0 hM0 h152 g11.1 g11.2 g10.1 h'.hr (fun h12 j hj ej K1 I1 L1 hx hb => ?_)).U (by omega) (by omega) (by omega) (by omega)
  obtain ⟨_, x1, x2, x3, x4⟩ := hx.sh
  obtain ⟨y1, y2, y3, y4, y5, y6, y7, y8, z1, z2, z3, z4, z5, z6, z7, i0, i5, i9, im⟩ := hb
  have hC1 : CLay (zR K1 3 nb (some K.1)) := CLay.zR (hC0.ext (by omega) (fun a ha => x2 a (by omega)) (fun a ha => x3 a (by omega))) (by decide)
  have hM1 : MLay (zR K1 3 nb (some K.1)) := MLay.zR (hM0.ext (by omega) (fun a ha => x2 a (by omega)) (x3 59 (by omega))) (by omega)
  have kr : ∀ a j, a < K.1 → a ≠ 3 → (zR K1 3 nb (some K.1)).2.2 a j = K.2.2 a j := fun a j z1 z2 => by
    rw [zR_ne z2, x3 a z1]
  have hke : KE K (zR K1 3 nb (some K.1)) np nb := ⟨hC1, hM1, by show K.1 ≤ K1.1; omega, x2, fun p _ => kr 4 p (by omega) (by omega), fun b hb => by rw [zR_o (by omega), x3 3 (by omega)], fun p => kr 2 p (by omega) (by omega), fun a j z z1 _ => kr a j z1 (by omega)⟩
  have f0 : Fz (fun a j => K.1 ≤ a) I I1 := fun a j z => by rw [x4 a (by omega)]
  generalize hJ : zI (m1I (zI (zI I1 0 4 (nI (nb + 1))) 64 nb p0) nb 0) 59 6 (nI (nb + 1)) = J
  have f : Fz (fun a j => K.1 ≤ a ∨ (a = 0 ∧ j = 4) ∨ (a = 59 ∧ j = 6) ∨ (a = 64 ∧ j = nb) ∨ (a = 65 ∧ 8 * nb ≤ j ∧ j < 8 * nb + 8)) I J := fun a j z => by
    rw [← hJ, zI_d (by omega)]
    have e : m1I (zI (zI I1 0 4 (nI (nb + 1))) 64 nb p0) nb 0 a j = zI (zI I1 0 4 (nI (nb + 1))) 64 nb p0 a j := by
      unfold m1I
      split
      · rename_i q
        show (if 8 * nb + 0 ≤ j ∧ j < 8 * nb + 8 then (-1 : Int32) else _) = _
        rw [if_neg (by omega)]
      · rfl
    rw [e, zI_d (by omega), zI_d (by omega)]
    exact f0 a j (by omega)
  have jn : ∀ a j, K.1 ≤ a → J a j = I1 a j := fun a j z => by
    rw [← hJ, zI_r (by omega)]
    unfold m1I
    simp only [if_neg (show a ≠ 65 by omega)]
    rw [zI_r (by omega), zI_r (by omega)]
  have j4 : J 0 4 = nI (nb + 1) := by
    rw [← hJ, zI_r (by omega)]
    unfold m1I
    simp only [if_neg (show 0 ≠ 65 by omega)]
    rw [zI_r (by omega), zI_s]
  have j6 : J 59 6 = nI (nb + 1) := by rw [← hJ, zI_s]
  have j64 : J 64 nb = p0 := by
    rw [← hJ, zI_r (by omega)]
    unfold m1I
    simp only [if_neg (show 64 ≠ 65 by omega)]
    rw [zI_s]
  have j65 : ∀ q, q < 8 → J 65 (8 * nb + q) = -1 := fun q hq => by
    rw [← hJ, zI_r (by omega)]
    unfold m1I
    simp only [if_true, Nat.add_zero]
    rw [if_pos (by omega)]
  clear hJ
  have er : ∀ a, a < K.1 → a ≠ 0 → a ≠ 59 → a ≠ 64 → a ≠ 65 → J a = I a := fun a z1 z2 z3 z4 z5 => funext fun j => f a j (by omega)
  have o : ∀ {P : Nat → Nat → Nat → Prop} (a j : Nat), (K.1 ≤ a ∨ (a = 0 ∧ j = 4) ∨ (a = 59 ∧ j = 6) ∨ (a = 64 ∧ j = nb) ∨ (a = 65 ∧ 8 * nb ≤ j ∧ j < 8 * nb + 8)) → 152 ≤ a → a < K.1 → ∃ o, Hm K a o ∧ P a j o := fun a j y z _ => by omega
  obtain ⟨r1, r2, r3, r4, r5, r6, r7⟩ := h'.sr f (fun a j z => by unfold rsS byS twS cdS seS clS at z; omega) (h'.vD.2.fz f (fun a j z => by unfold zzS at z; omega))
  have k1 : K.1 ≤ K1.1 := by omega
  have pl : ∀ p, p < np → 152 ≤ pid p ∧ pid p + 6 < K.1 := fun p hp => ⟨g4.ge hp, g4.lt hp⟩
  have bl : ∀ p, p < nb → 152 ≤ bid p ∧ bid p + 7 < K.1 := fun p hp => ⟨g10.ge hp, g10.lt hp⟩
  have rl : ∀ r, r < nr → 152 ≤ rid r ∧ rid r + 2 < K.1 := fun r hr => by
    obtain ⟨d1, d2, d3, d4, d5, d6, d7, d8, d9⟩ := g7.2.2.2.1 r hr
    obtain ⟨a1, a2, a3, a4, a5, b1, b2, b3, b4, b5, c1, c2, c3, c4, c5⟩ := g8 r hr
    have := ht.2 r hr
    omega
  have ninj : ∀ i, i < nb → nI nb ≠ nI i := fun i hi z => by
    have := z_nat (x := nI nb) rfl z (by have := g10.1; omega) (by have := g10.1; omega)
    omega
  have Anone : ∀ k, A (nI nb) k = none := fun k => by
    cases e : A (nI nb) k with
    | none => rfl
    | some v =>
      obtain ⟨i, hi, e2⟩ := g12.2.2.2.2.2 _ _ _ e
      exact absurd e2 (ninj i hi)
  refine ⟨np, nb + 1, pid, pts, fun b => if b = nb then K.1 else bid b, ⟨nr, na, t, rid, rp, rk, ln, cx, cy, fun b => if b = nb then 0 else m b, par, X, Y, A, ⟨hC1, hM1, by show 152 ≤ K1.1; omega, g4.ke hke, g5.ag (f 0 8 (by omega)) (f 59 9 (by omega)) (er 67 (by omega) (by omega) (by omega) (by omega) (by omega)) (fun i hi => f _ _ (by have := pl i hi; omega)), g6.ag (fun q hq => kr _ _ (by have := pl q hq; omega) (by have := pl q hq; omega)) (er 66 (by omega) (by omega) (by omega) (by omega) (by omega)) (er 68 (by omega) (by omega) (by omega) (by omega) (by omega)) (fun q hq => by have := pl q hq; exact ⟨f _ _ (by omega), f _ _ (by omega)⟩), g7.ag k1 x2 (fun r hr => kr _ _ (by have := rl r hr; omega) (by have := rl r hr; omega)) (fun p k hp _ => kr _ _ (by have := pl p hp; omega) (by have := pl p hp; omega)) (f 0 9 (by omega)) (f 59 22 (by omega)) (er 79 (by omega) (by omega) (by omega) (by omega) (by omega)) (er 80 (by omega) (by omega) (by omega) (by omega) (by omega)) (er 81 (by omega) (by omega) (by omega) (by omega) (by omega)) (fun r hr => f _ _ (by have := rl r hr; omega)), g8.ag k1 x2 (fun r hr => by have := rl r hr; exact ⟨kr _ _ (by omega) (by omega), kr _ _ (by omega) (by omega)⟩) (er 77 (by omega) (by omega) (by omega) (by omega) (by omega)) (er 78 (by omega) (by omega) (by omega) (by omega) (by omega)) (fun r hr => by have := rl r hr; have := ht.2 r hr; exact ⟨er _ (by omega) (by omega) (by omega) (by omega) (by omega), er _ (by omega) (by omega) (by omega) (by omega) (by omega)⟩), g9.ag (fun a z1 z2 => er a (by omega) (by omega) (by omega) (by omega) (by omega)) (fun p x hp _ hx => by have := pl p hp; exact er _ (by omega) (by omega) (by omega) (by omega) (by omega)), ⟨by omega, fun b hb => ?_, fun p q hp hq e => ?_⟩, ⟨j4, j6⟩, ⟨by rw [f 0 5 (by omega)]; exact g12.1, by rw [f 59 49 (by omega)]; exact g12.2.1, g12.2.2.1, ?_, fun i hi => ?_, fun b k v e => ?_⟩, by rw [f 0 0 (by omega), f 59 0 (by omega)]; exact g13, by rw [f 59 1 (by omega)]; exact g14, g15, g16.ag hke f (fun a j z1 z2 z3 => by omega) (fun a z1 z2 => er a (by omega) (by omega) (by omega) (by omega) (by omega)) (by rw [f 59 0 (by omega)]; omega), fun b hb => ?_⟩, ?_, ⟨by omega, ht.1.2.ke hke.2.2.1 x2 hke.2.2.2.2.2.2.1 (fun a j a1 a2 a3 => hke.2.2.2.2.2.2.2 a j a1 a2 (by rw [a3]; decide))⟩, ht.2⟩, hS.fz k1 x2 (fun j => kr 21 j (by omega) (by omega)) (fun a j z z1 _ => kr a j z1 (by omega)) f (fun a j z => by unfold smS at z; omega) o, hE.fz k1 x2 (fun j => kr 51 j (by omega) (by omega)) (fun a j z z1 _ => kr a j z1 (by omega)) f (fun a j z => by unfold edS at z; omega) o, ⟨nt, tp, tb, ta, te, t1, by rw [f 0 6 (by omega)]; exact t2, by rw [f 59 107 (by omega)]; exact t3, fun i hi => ?_, fun k hk => ?_⟩, hM.fz (fun j => kr 27 j (by omega) (by omega)) f (fun a j z => by unfold mkS at z; omega), r1, r2, r3, r4, r5, hG.fz g4 f (fun j => by omega) o, r6, r7⟩
  · by_cases y : b = nb
    · subst y
      simp only [if_true]
      have kb : ∀ j, (zR K1 3 b (some K.1)).2.2 K.1 j = K1.2.2 K.1 j := fun j => by rw [zR_ne (by omega)]
      refine ⟨zR_e, by omega, by show K.1 + 7 < K1.1; omega, y1, y2, y3, y4, y5, y6, y7, y8, ?_⟩
      simp only [kb]
      exact ⟨z1, z2, z3, z4, z5, z6, z7⟩
    · simp only [if_neg y]
      exact (g10.ke hke).2.1 b (by omega)
  · by_cases y : p = nb <;> by_cases z : q = nb
    · omega
    · have := bl q (by omega)
      simp only [if_pos y, if_neg z] at e
      omega
    · have := bl p (by omega)
      simp only [if_pos z, if_neg y] at e
      omega
    · simp only [if_neg y, if_neg z] at e
      exact g10.2.2 p q (by omega) (by omega) e
  · rw [er 88 (by omega) (by omega) (by omega) (by omega) (by omega), er 89 (by omega) (by omega) (by omega) (by omega) (by omega), er 90 (by omega) (by omega) (by omega) (by omega) (by omega), er 91 (by omega) (by omega) (by omega) (by omega) (by omega)]
    exact g12.2.2.2.1
  · by_cases y : i = nb
    · subst y
      simp only [if_true]
      refine ⟨by omega, by rw [jn _ _ (by omega)]; exact i5, fun r hr => by omega, fun k v e => ?_, fun r s hr => by omega⟩
      rw [Anone] at e
      cases e
    · simp only [if_neg y]
      have := bl i (by omega)
      rw [f (bid i) 5 (by omega), er (bid i + 2) (by omega) (by omega) (by omega) (by omega) (by omega), er (bid i + 3) (by omega) (by omega) (by omega) (by omega) (by omega), er (bid i + 4) (by omega) (by omega) (by omega) (by omega) (by omega)]
      exact g12.2.2.2.2.1 i (by omega)
  · obtain ⟨i, hi, e2⟩ := g12.2.2.2.2.2 b k v e
    exact ⟨i, by omega, e2⟩
  · by_cases y : b = nb
    · subst y
      simp only [if_true]
      refine ⟨by rw [jn _ _ (by omega), j64]; exact i0, ⟨j, hj, by rw [j64]; exact ej⟩, fun q hq => ?_⟩
      rw [jn _ _ (by omega), j65 q hq, im q hq]
      exact ⟨rfl, by decide⟩
    · simp only [if_neg y]
      have := bl b (by omega)
      obtain ⟨a1, a2, a3⟩ := g17 b (by omega)
      refine ⟨by rw [f (bid b) 0 (by omega), f 64 b (by omega)]; exact a1, by rw [f 64 b (by omega)]; exact a2, fun q hq => ?_⟩
      rw [f (bid b + 1) q (by omega), f 65 _ (by omega)]
      exact a3 q hq
  · unfold WdB at hB ⊢
    rw [er 70 (by omega) (by omega) (by omega) (by omega) (by omega), er 71 (by omega) (by omega) (by omega) (by omega) (by omega), er 73 (by omega) (by omega) (by omega) (by omega) (by omega), er 74 (by omega) (by omega) (by omega) (by omega) (by omega)]
    exact hB
  · by_cases y : i = nb
    · subst y
      simp only [if_true]
      rw [jn _ _ (by omega), tcn_0 nt (fun k hk => by have := (t5 k hk).2.1; omega)]
      exact i9
    · simp only [if_neg y]
      have := bl i (by omega)
      rw [f (bid i) 9 (by omega)]
      exact t4 i (by omega)
  · have q := t5 k hk
    have hb := q.2.1
    have := bl _ hb
    simp only [if_neg (show tb k ≠ nb by omega)]
    rw [f 133 k (by omega), f 134 k (by omega), f 135 k (by omega), f 136 k (by omega), f 137 k (by omega), f 138 k (by omega), f (bid (tb k) + 5) _ (by omega), f (bid (tb k) + 6) _ (by omega), f (bid (tb k) + 7) _ (by omega)]
    exact ⟨q.1, by omega, q.2.2⟩
end RW8
