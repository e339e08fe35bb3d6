/-! rows of days, measure, grade, curve, straight, alter -/
section RW6
variable {n0 c : Nat} {K K' : z_K} {I I' : z_I} {L : z_L} {S : Nat → Nat → Prop} {np nr nb na t ns ne : Nat} {pid pts rid rp rk ln cx cy bid m : Nat → Nat} {par : Nat → Option Nat} {X Y : Nat → List Int32} {A : Int32 → Int32 → Option (Int32 × Int32)} {p0 p1 p2 p3 p4 p5 p6 p7 : Int32}
theorem Inv.wg (h : Inv c K I) (hW : Wd K I np nr nb na t pid pts rid rp rk ln cx cy bid m par X Y A) (ht : t ≤ c ∧ Own K) (hc : ∀ r, r < nr → cx r = rid r + 1 ∧ cy r = rid r + 2) (hS : IvS K I np pid pts) (hE : IvE K I np pid) (hT : IvT I nb bid) (hM : IvM K I np pid) (hG : IvG I np pid) (hI : Fz S I I')
    (hs : ∀ a j, S a j → a < 152 → (a = 0 ∧ (j = 0 ∨ j = 5)) ∨ (a = 59 ∧ (j = 0 ∨ j = 49)) ∨ a = 65 ∨ (70 ≤ a ∧ a ≤ 74) ∨ (88 ≤ a ∧ a ≤ 91))
    (ho : ∀ a j, S a j → 152 ≤ a → a < K.1 → ∃ o, Hm K a o ∧ (((K.2.1 o).1 = 5 ∧ o + 2 ≤ a) ∨ ((K.2.1 o).1 = 0 ∧ ((o + 1 ≤ a ∧ a ≤ o + 4) ∨ (a = o ∧ j = 5)))))
    {na' : Nat} {m' : Nat → Nat} {A' : Int32 → Int32 → Option (Int32 × Int32)} (hPG : PcG I' np pid) (hA : AltI I' nb na' bid m' A') (hBM : BdM I' nb bid) (hd : I' 0 0 = I' 59 0) (hd2 : (I 59 0).toInt ≤ (I' 59 0).toInt) (hB : WdB I' np A') (hD : IvD I') : Inv (c + 1) K I' := by
  have h4 := hW.2.2.2.1
  have h10 : BdK K nb bid := hW.2.2.2.2.2.2.2.2.2.1
  have n : ∀ a j, a < 152 → ¬ ((a = 0 ∧ (j = 0 ∨ j = 5)) ∨ (a = 59 ∧ (j = 0 ∨ j = 49)) ∨ a = 65 ∨ (70 ≤ a ∧ a ≤ 74) ∨ (88 ≤ a ∧ a ≤ 91)) → ¬ S a j := fun a j z q y => q (hs a j y z)
  have o : ∀ {P : Nat → Nat → Nat → Prop}, (∀ a j o, ((K.2.1 o).1 = 5 ∧ o + 2 ≤ a) ∨ ((K.2.1 o).1 = 0 ∧ ((o + 1 ≤ a ∧ a ≤ o + 4) ∨ (a = o ∧ j = 5))) → P a j o) → ∀ (a j : Nat), S a j → 152 ≤ a → a < K.1 → ∃ o, Hm K a o ∧ P a j o := fun q a j y z z2 => by
    obtain ⟨o, e1, e2⟩ := ho a j y z z2
    exact ⟨o, e1, q a j o e2⟩
  refine ⟨np, nb, pid, pts, bid, ⟨nr, na', t, rid, rp, rk, ln, cx, cy, m', par, X, Y, A', hW.go hc hI hs ho hPG hA hBM hd hd2, hB, ⟨by omega, ht.2⟩, hc⟩, hS.fz (Nat.le_refl _) (fun _ _ => rfl) (fun _ => rfl) (fun _ _ _ _ _ => rfl) hI (fun a j z => n a j (by unfold smS at z; omega) (by unfold smS at z; omega)) (o (fun a j o z => by omega)), hE.fz (Nat.le_refl _) (fun _ _ => rfl) (fun _ => rfl) (fun _ _ _ _ _ => rfl) hI (fun a j z => n a j (by unfold edS at z; omega) (by unfold edS at z; omega)) (o (fun a j o z => by omega)), hT.fz h10 hI (fun a j z => n a j (by unfold trM2 at z; omega) (by unfold trM2 at z; omega)) (o (fun a j o z => by omega)), hM.fz (fun _ => rfl) hI (fun a j z => n a j (by unfold mkS at z; omega) (by unfold mkS at z; omega)), h.vC.fz hI (fun a j z => n a j (by unfold clS at z; omega) (by unfold clS at z; omega)), h.vB.fz hI (fun a j z => n a j (by unfold byS at z; omega) (by unfold byS at z; omega)), h.vX.fz hI (fun a j z => n a j (by unfold twS at z; omega) (by unfold twS at z; omega)), h.vK.fz hI (fun a j z => n a j (by unfold cdS at z; omega) (by unfold cdS at z; omega)), h.vN.fz hI (fun a j z => n a j (by unfold seS at z; omega) (by unfold seS at z; omega)), hG.fz h4 hI (fun j => n 69 j (by omega) (by omega)) (o (fun a j o z => by omega)), hD, fun k hk => ?_⟩
  rw [hI 1 k (n 1 k (by omega) (by omega)), hI 75 k (n 75 k (by omega) (by omega))]
  exact h.r k hk
theorem rw_days (h : Inv c K I) : OpU n0 xX12_days xX13_days [.int p0] K I L (Iv (c + 1)) := by
  have h' := h
  obtain ⟨hC0, hM0⟩ := h.lay
  obtain ⟨np, nb, pid, pts, bid, hA, hS, hE, hT, hM, _, _, _, _, _, hG, _, _⟩ := h
  obtain ⟨nr, na, t, rid, rp, rk, ln, cx, cy, m, par, X, Y, A, hW, hB, ht⟩ := hA
  have hW' := hW
  obtain ⟨g1, g2, g3, g4, g5, g6, g7, g8, g9, g10, g11, g12, g13, g14, g15, g16, g17⟩ := hW'
  refine (op_days (d := 0) (P := Iv (c + 1) K) hC0 hM0 g13 h'.hr (fun e1 e2 => ?_)).U (by omega) (by omega)
  obtain ⟨⟨d1, d2⟩, dz⟩ := h'.vD
  have s1 : ((1000 : Int32) - I 59 0).toInt = 1000 - (I 59 0).toInt := q_sub (by show _ ≤ (1000 : Int) - _; omega) (by show (1000 : Int) - _ < _; omega)
  have e3 : p0.toInt ≤ 1000 - (I 59 0).toInt := by rw [← s1]; exact Int.not_lt.mp (fun z => e2 (q_lt.mpr z))
  have s2 : (I 59 0 + p0).toInt = (I 59 0).toInt + p0.toInt := q_add (by omega) (by omega)
  generalize hJ : zI (zI I 0 0 (I 59 0 + p0)) 59 0 (I 59 0 + p0) = J
  have f : Fz (fun a j => (a = 0 ∧ j = 0) ∨ (a = 59 ∧ j = 0)) I J := by rw [← hJ]; exact (Fz.rfl'.z (Or.inl ⟨rfl, rfl⟩)).z (Or.inr ⟨rfl, rfl⟩)
  have j1 : J 0 0 = I 59 0 + p0 := by rw [← hJ, zI_r (by omega), zI_s]
  have j2 : J 59 0 = I 59 0 + p0 := by rw [← hJ, zI_s]
  have er : ∀ a, a ≠ 0 → a ≠ 59 → J a = I a := fun a z1 z2 => funext fun j => f a j (by omega)
  have bg : ∀ i, i < nb → 152 ≤ bid i := fun i hi => g10.ge hi
  have pg : ∀ i, i < np → 152 ≤ pid i := fun i hi => g4.ge hi
  refine h'.wg hW ht.1 ht.2 hS hE hT hM hG f (fun a j z _ => by omega) (fun a j z z1 z2 => by omega) (g9.ag (fun a z1 z2 => er a (by omega) (by omega)) (fun p x hp _ _ => er _ (by have := pg p hp; omega) (by have := pg p hp; omega))) (g12.ag (f 0 5 (by omega)) (f 59 49 (by omega)) (fun a z1 z2 => er a (by omega) (by omega)) (fun i hi => by have := bg i hi; exact ⟨by rw [er _ (by omega) (by omega)], er _ (by omega) (by omega), er _ (by omega) (by omega), er _ (by omega) (by omega)⟩)) (g17.ag (er 64 (by omega) (by omega)) (er 65 (by omega) (by omega)) (fun i hi => by have := bg i hi; exact ⟨by rw [er _ (by omega) (by omega)], er _ (by omega) (by omega)⟩)) (by rw [j1, j2]) (by rw [j2, s2]; omega) ?_ ⟨by rw [j2, s2]; omega, dz.fz f (fun a j z => by unfold zzS at z; omega)⟩
  unfold WdB at hB ⊢
  rw [er 70 (by omega) (by omega), er 71 (by omega) (by omega), er 73 (by omega) (by omega), er 74 (by omega) (by omega)]
  exact hB
theorem rw_measure (h : Inv c K I) : OpU n0 xX12_measure xX13_measure [.int p0, .int p1, .int p2] K I L (Iv (c + 1)) := by
  have h' := h
  obtain ⟨hC0, hM0⟩ := h.lay
  obtain ⟨np, nb, pid, pts, bid, hA, hS, hE, hT, hM, _, _, _, _, _, hG, _, _⟩ := h
  obtain ⟨nr, na, t, rid, rp, rk, ln, cx, cy, m, par, X, Y, A, hW, hB, ht⟩ := hA
  have hW' := hW
  obtain ⟨g1, g2, g3, g4, g5, g6, g7, g8, g9, g10, g11, g12, g13, g14, g15, g16, g17⟩ := hW'
  refine (op_measure (d := 0) (P := Iv (c + 1) K) hC0 hM0 g10 g11 (fun i j hi hj => ((g17 i hi).2.2 j hj).1) h'.hr (fun b q hb hq e1 e2 => ?_)).U (by omega) (by omega)
  have gb := g10.ge hb
  have cl := g10.cls hb
  generalize hJ : zI (zI I (bid b + 1) q p2) 65 (8 * b + q) p2 = J
  have f : Fz (fun a j => (a = bid b + 1 ∧ j = q) ∨ (a = 65 ∧ j = 8 * b + q)) I J := by rw [← hJ]; exact (Fz.rfl'.z (Or.inl ⟨rfl, rfl⟩)).z (Or.inr ⟨rfl, rfl⟩)
  have j1 : ∀ k, J (bid b + 1) k = if k = q then p2 else I (bid b + 1) k := fun k => by rw [← hJ, zI_r (by omega), zI_if]; simp only [true_and]
  have j2 : ∀ k, J 65 k = if k = 8 * b + q then p2 else I 65 k := fun k => by rw [← hJ, zI_if, zI_r (by omega)]; simp only [true_and]
  clear hJ
  have er : ∀ a, a ≠ bid b + 1 → a ≠ 65 → J a = I a := fun a z1 z2 => funext fun j => f a j (by omega)
  have hh := hm_b g10 hb (show 1 ≤ 7 by omega)
  have pn : ∀ p x, p < np → x ≤ 6 → pid p + x ≠ bid b + 1 := fun p x hp hx => (hm_p g4 hp hx).nq hh (by rw [g4.cls hp, cl]; omega)
  have pg : ∀ i, i < np → 152 ≤ pid i := fun i hi => g4.ge hi
  have bn : ∀ i x, i < nb → x ≤ 7 → x ≠ 1 → bid i + x ≠ bid b + 1 := fun i x hi hx n z => by
    have a := hm_b g10 hi hx
    rw [z] at a
    have := a.u hh
    omega
  have bg : ∀ i, i < nb → 152 ≤ bid i := fun i hi => g10.ge hi
  refine h'.wg hW ht.1 ht.2 hS hE hT hM hG f (fun a j z _ => by omega) (fun a j z z1 z2 => ⟨bid b, by rw [show a = bid b + 1 by omega]; exact hh, by omega⟩) (g9.ag (fun a z1 z2 => er a (by omega) (by omega)) (fun p x hp _ hx => er _ (pn p x hp hx) (by have := pg p hp; omega))) (g12.ag (f 0 5 (by omega)) (f 59 49 (by omega)) (fun a z1 z2 => er a (by omega) (by omega)) (fun i hi => by have := bg i hi; exact ⟨by rw [er (bid i) (bn i 0 hi (by omega) (by omega)) (by omega)], er _ (bn i 2 hi (by omega) (by omega)) (by omega), er _ (bn i 3 hi (by omega) (by omega)) (by omega), er _ (bn i 4 hi (by omega) (by omega)) (by omega)⟩)) (fun i hi => ?_) (by rw [f 0 0 (by omega), f 59 0 (by omega)]; exact g13) (by rw [f 59 0 (by omega)]; omega) ?_ (h'.vD.fz f (by omega) (h'.vD.2.fz f (fun a j z => by unfold zzS at z; omega)))
  · obtain ⟨a1, a2, a3⟩ := g17 i hi
    have := bg i hi
    refine ⟨by rw [er (bid i) (bn i 0 hi (by omega) (by omega)) (by omega), er 64 (by omega) (by omega)]; exact a1, by rw [er 64 (by omega) (by omega)]; exact a2, fun k hk => ?_⟩
    rw [j2]
    by_cases y : i = b
    · subst y
      rw [j1]
      by_cases z : k = q
      · rw [if_pos z, if_pos (by omega)]; exact ⟨rfl, e1⟩
      · rw [if_neg z, if_neg (by omega)]; exact a3 k hk
    · have d : bid i + 1 ≠ bid b + 1 := g10.dis hi hb y (by omega) (by omega)
      rw [f (bid i + 1) k (by omega), if_neg (by omega)]
      exact a3 k hk
  · unfold WdB at hB ⊢
    rw [er 70 (by omega) (by omega), er 71 (by omega) (by omega), er 73 (by omega) (by omega), er 74 (by omega) (by omega)]
    exact hB
end RW6
