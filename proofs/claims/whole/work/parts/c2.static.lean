/-! rows of the calls that write to cells of the house itself -/
theorem zI_if {I : z_I} {k j a b : Nat} {v : Int32} : zI I k j v a b = if a = k ∧ b = j then v else I a b := by
  by_cases h : a = k ∧ b = j
  · rw [if_pos h, h.1, h.2]; exact zI_s
  · rw [if_neg h]; exact zI_d h
section STA
variable {n0 c : Nat} {K K' : z_K} {I I' : z_I} {L : z_L} {S : Nat → Nat → Prop} {p0 p1 p2 p3 p4 p5 p6 : Int32}
theorem Inv.vC (h : Inv c K I) : IvC I := by
  obtain ⟨np, nb, pid, pts, bid, hA, hS, hE, hT, hM, hC, hB, hX, hK, hN, hG, hD, hR⟩ := h; exact hC
theorem Inv.vB (h : Inv c K I) : IvB I := by
  obtain ⟨np, nb, pid, pts, bid, hA, hS, hE, hT, hM, hC, hB, hX, hK, hN, hG, hD, hR⟩ := h; exact hB
theorem Inv.vX (h : Inv c K I) : IvX I := by
  obtain ⟨np, nb, pid, pts, bid, hA, hS, hE, hT, hM, hC, hB, hX, hK, hN, hG, hD, hR⟩ := h; exact hX
theorem Inv.vK (h : Inv c K I) : IvK I := by
  obtain ⟨np, nb, pid, pts, bid, hA, hS, hE, hT, hM, hC, hB, hX, hK, hN, hG, hD, hR⟩ := h; exact hK
theorem Inv.vD (h : Inv c K I) : IvD I := by
  obtain ⟨np, nb, pid, pts, bid, hA, hS, hE, hT, hM, hC, hB, hX, hK, hN, hG, hD, hR⟩ := h; exact hD
theorem Inv.vN (h : Inv c K I) : IvN I := by
  obtain ⟨np, nb, pid, pts, bid, hA, hS, hE, hT, hM, hC, hB, hX, hK, hN, hG, hD, hR⟩ := h; exact hN
/-- cells of the house that drawings, seams, editions and trials do not read -/
def stS (a j : Nat) : Prop := a < 152 ∧ ¬ wdS a j ∧ ¬ smS a j ∧ ¬ edS a j ∧ ¬ trM2 a j ∧ a ≠ 69 ∧ a ≠ 1 ∧ a ≠ 75
theorem Inv.st (h : Inv c K I) (hI : Fz S I I') (hW : ∀ a j, S a j → stS a j) (mM : ∀ np pid, IvM K I np pid → IvM K I' np pid) (mC : IvC I') (mB : IvB I') (mX : IvX I') (mK : IvK I') (mN : IvN I') : Inv (c + 1) K I' := by
  obtain ⟨hC0, hM0⟩ := h.lay
  obtain ⟨np, nb, pid, pts, bid, hA, hS, hE, hT, hM, hC, hB, hX, hK, hN, hG, hD, hR⟩ := h
  have e : ∀ a j, ¬ stS a j → ¬ S a j := fun a j z y => z (hW a j y)
  have o : ∀ {P : Nat → Nat → Nat → Prop} (a j : Nat), S a j → 152 ≤ a → a < K.1 → ∃ o, Hm K a o ∧ P a j o := fun a j y z _ => by have := (hW a j y).1; omega
  refine ⟨np, nb, pid, pts, bid, hA.fz (KE.rf hC0 hM0) hI ⟨fun a j z => e a j (fun y => y.2.1 z), o⟩ (by omega), hS.fz (Nat.le_refl _) (fun _ _ => rfl) (fun _ => rfl) (fun _ _ _ _ _ => rfl) hI (fun a j z => e a j (fun y => y.2.2.1 z)) o, hE.fz (Nat.le_refl _) (fun _ _ => rfl) (fun _ => rfl) (fun _ _ _ _ _ => rfl) hI (fun a j z => e a j (fun y => y.2.2.2.1 z)) o, hT.fz hA.bk hI (fun a j z => e a j (fun y => y.2.2.2.2.1 z)) o, mM np pid hM, mC, mB, mX, mK, mN, hG.fz hA.pk hI (fun j => e 69 j (fun y => y.2.2.2.2.2.1 rfl)) o, ?_, fun k hk => ?_⟩
  · refine hD.fz hI (e _ _ (fun y => y.2.1 (by unfold wdS; omega))) (hD.2.fz hI (fun a j z => e a j (fun y => ?_)))
    have := y.2.1
    have := y.2.2.1
    have := y.2.2.2.1
    have := y.2.2.2.2.2.1
    unfold wdS smS edS at *
    unfold zzS at z
    omega
  · rw [hI 1 k (e _ _ (fun y => y.2.2.2.2.2.2.1 rfl)), hI 75 k (e _ _ (fun y => y.2.2.2.2.2.2.2 rfl))]
    exact hR k hk
theorem IvC_of (h : ∀ i, i < 6 → I 26 i = I 113 i ∧ (z_sf 1 i).toInt ≤ (I 113 i).toInt ∧ (I 113 i).toInt ≤ (z_sf 2 i).toInt) : IvC I := by
  obtain ⟨a0, b0, c0⟩ := h 0 (by omega)
  obtain ⟨a1, b1, c1⟩ := h 1 (by omega)
  obtain ⟨a2, b2, c2⟩ := h 2 (by omega)
  obtain ⟨a3, b3, c3⟩ := h 3 (by omega)
  have f0 : (1 : Int) ≤ (I 113 0).toInt := b0
  have g0 : (I 113 0).toInt ≤ (24 : Int) := c0
  have f1 : (1 : Int) ≤ (I 113 1).toInt := b1
  have g1 : (I 113 1).toInt ≤ (500 : Int) := c1
  have f2 : (0 : Int) ≤ (I 113 2).toInt := b2
  have g2 : (I 113 2).toInt ≤ (1 : Int) := c2
  have f3 : (0 : Int) ≤ (I 113 3).toInt := b3
  have g3 : (I 113 3).toInt ≤ (12 : Int) := c3
  obtain ⟨x, x1, x2, x3⟩ := q_of (show 0 ≤ (I 113 0).toInt by omega)
  obtain ⟨y, y1, y2, y3⟩ := q_of f2
  obtain ⟨z, z1, z2, z3⟩ := q_of f3
  refine ⟨fun i hi => (h i hi).1, ⟨x, y, z, ⟨by rw [a0]; exact x1, x1, by omega, by omega⟩, ⟨by rw [a2]; exact y1, y1, by omega⟩, ⟨by rw [a3]; exact z1, z1, by omega⟩, a1, f1, g1⟩, fun i h4 h6 => ?_⟩
  have : i = 4 ∨ i = 5 := by omega
  rcases this with q | q <;> subst q
  · exact ⟨(h 4 (by omega)).2.1, (h 4 (by omega)).2.2⟩
  · exact ⟨(h 5 (by omega)).2.1, (h 5 (by omega)).2.2⟩
theorem IvC.all (h : IvC I) : ∀ i, i < 6 → I 26 i = I 113 i ∧ (z_sf 1 i).toInt ≤ (I 113 i).toInt ∧ (I 113 i).toInt ≤ (z_sf 2 i).toInt := by
  obtain ⟨h1, ⟨x, y, z, ⟨q1, q2, q3, q4⟩, ⟨r1, r2, r3⟩, ⟨s1, s2, s3⟩, t1, t2, t3⟩, h3⟩ := h
  intro i hi
  refine ⟨h1 i hi, ?_⟩
  have : i = 0 ∨ i = 1 ∨ i = 2 ∨ i = 3 ∨ i = 4 ∨ i = 5 := by omega
  rcases this with e | e | e | e | e | e <;> subst e
  · rw [q2, q_nI (by omega)]; show (1 : Int) ≤ _ ∧ _ ≤ (24 : Int); omega
  · exact ⟨t2, t3⟩
  · rw [r2, q_nI (by omega)]; show (0 : Int) ≤ _ ∧ _ ≤ (1 : Int); omega
  · rw [s2, q_nI (by omega)]; show (0 : Int) ≤ _ ∧ _ ≤ (12 : Int); omega
  · exact h3 4 (by omega) (by omega)
  · exact h3 5 (by omega) (by omega)
theorem rw_cloth (h : Inv c K I) : OpU n0 xX12_cloth xX13_cloth [.int p0, .int p1] K I L (Iv (c + 1)) := by
  have hA := h.vC.all
  refine (op_cloth (d := 0) (P := Iv (c + 1) K) h.lay.1 h.lay.2 (fun i hi => (hA i hi).1) h.hr (fun i hi h1 h2 => ?_)).U (by omega) (by omega)
  have f : Fz (fun a _ => a = 26 ∨ a = 113) I (zI (zI I 26 i p1) 113 i p1) := (Fz.rfl'.z (Or.inl rfl)).z (Or.inr rfl)
  refine h.st f (fun a j z => by unfold stS wdS smS edS trM2; omega) (fun np pid z => z.fz (fun _ => rfl) f (fun a j y => by unfold mkS at y; omega)) (IvC_of fun k hk => ?_) (h.vB.fz f (fun a j y => by unfold byS at y; omega)) (h.vX.fz f (fun a j y => by unfold twS at y; omega)) (h.vK.fz f (fun a j y => by unfold cdS at y; omega)) (h.vN.fz f (fun a j y => by unfold seS at y; omega))
  by_cases x : k = i
  · subst x
    rw [zI_s, zI_r (by omega), zI_s]
    exact ⟨rfl, h1, h2⟩
  · rw [zI_r (by omega), zI_d (by omega), zI_d (by omega), zI_r (by omega)]
    exact hA k hk
theorem rw_condition (h : Inv c K I) : OpU n0 xX12_condition xX13_condition [.int p0, .int p1, .int p2, .int p3, .int p4, .int p5, .int p6] K I L (Iv (c + 1)) := by
  obtain ⟨n, q1, q2, q3, q4, q5, q6⟩ := h.vK
  refine (op_condition (d := 0) (P := Iv (c + 1) K) h.lay.1 h.lay.2 q2 q3 q1 h.hr (fun h1 h2 h3 h4 => ?_)).U (by omega) (by omega)
  have f : Fz cdS I (zI (cdI (zI (cdI I 23 24 n p0 p1 p2 p3 p4 p5 p6) 22 2 (nI (n + 1))) 110 111 n p0 p1 p2 p3 p4 p5 p6) 59 77 (nI (n + 1))) := by
    unfold cdI
    refine Fz.z (Fz.z (Fz.z (Fz.z (Fz.z (Fz.z (Fz.z (Fz.z (Fz.z (Fz.z (Fz.z (Fz.z (Fz.z (Fz.z (Fz.z (Fz.z Fz.rfl' ?_) ?_) ?_) ?_) ?_) ?_) ?_) ?_) ?_) ?_) ?_) ?_) ?_) ?_) ?_) ?_ <;> (unfold cdS; omega)
  refine h.st f (fun a j z => by unfold cdS at z; unfold stS wdS smS edS trM2; omega) (fun np pid z => z.fz (fun _ => rfl) f (fun a j y => by unfold mkS at y; unfold cdS; omega)) (h.vC.fz f (fun a j y => by unfold clS at y; unfold cdS; omega)) (h.vB.fz f (fun a j y => by unfold byS at y; unfold cdS; omega)) (h.vX.fz f (fun a j y => by unfold twS at y; unfold cdS; omega)) ⟨n + 1, ?_⟩ (h.vN.fz f (fun a j y => by unfold seS at y; unfold cdS; omega))
  have g := fun p (z : p ∈ [p0, p1, p2, p3, p4, p5]) => h2 p z
  have v : ∀ (a b : Nat) (k : Nat) (J : z_I), a ≠ b → ∀ j, cdI J a b k p0 p1 p2 p3 p4 p5 p6 a j = if j = 6 * k + 5 then p5 else if j = 6 * k + 4 then p4 else if j = 6 * k + 3 then p3 else if j = 6 * k + 2 then p2 else if j = 6 * k + 1 then p1 else if j = 6 * k then p0 else J a j := fun a b k J ab j => by
    unfold cdI
    rw [zI_r ab]
    simp only [zI_if, true_and]
  have w : ∀ (a b : Nat) (k : Nat) (J : z_I), a ≠ b → ∀ j, cdI J a b k p0 p1 p2 p3 p4 p5 p6 b j = if j = k then p6 else J b j := fun a b k J ab j => by
    unfold cdI
    rw [zI_if]
    by_cases x : j = k
    · rw [if_pos ⟨rfl, x⟩, if_pos x]
    · rw [if_neg (fun z => x z.2), if_neg x, zI_r (Ne.symm ab), zI_r (Ne.symm ab), zI_r (Ne.symm ab), zI_r (Ne.symm ab), zI_r (Ne.symm ab), zI_r (Ne.symm ab)]
  have u : ∀ (a b : Nat) (k : Nat) (J : z_I) (x : Nat), x ≠ a → x ≠ b → cdI J a b k p0 p1 p2 p3 p4 p5 p6 x = J x := fun a b k J x ha hb => by
    unfold cdI
    rw [zI_r hb, zI_r ha, zI_r ha, zI_r ha, zI_r ha, zI_r ha, zI_r ha]
  have e22 : zI (cdI (zI (cdI I 23 24 n p0 p1 p2 p3 p4 p5 p6) 22 2 (nI (n + 1))) 110 111 n p0 p1 p2 p3 p4 p5 p6) 59 77 (nI (n + 1)) 22 2 = nI (n + 1) := by
    rw [zI_r (by omega), u _ _ _ _ _ (by omega) (by omega), zI_s]
  refine ⟨by omega, e22, zI_s, fun j hj => ?_, fun j hj => ?_, fun j hj => ?_, fun j hj => ?_⟩
  · rw [zI_r (by omega), zI_r (by omega), u _ _ _ _ 23 (by omega) (by omega), v _ _ _ _ (by omega), zI_r (by omega), v _ _ _ _ (by omega), zI_r (by omega), u _ _ _ _ 110 (by omega) (by omega), q4 j hj]
  · rw [zI_r (by omega), zI_r (by omega), u _ _ _ _ 24 (by omega) (by omega), w _ _ _ _ (by omega), zI_r (by omega), w _ _ _ _ (by omega), zI_r (by omega), u _ _ _ _ 111 (by omega) (by omega), q5 j hj]
  · rw [zI_r (by omega), v _ _ _ _ (by omega), zI_r (by omega), u _ _ _ _ 110 (by omega) (by omega)]
    split
    · exact g _ (by simp)
    split
    · exact g _ (by simp)
    split
    · exact g _ (by simp)
    split
    · exact g _ (by simp)
    split
    · exact g _ (by simp)
    split
    · exact g _ (by simp)
    exact q6.1 j hj
  · rw [zI_r (by omega), w _ _ _ _ (by omega), zI_r (by omega), u _ _ _ _ 111 (by omega) (by omega)]
    split
    · exact ⟨h3, h4⟩
    exact q6.2 j hj
theorem rw_free (h : Inv c K I) : OpU n0 xX12_free xX13_free [] K I L (Iv (c + 1)) := by
  obtain ⟨n, q1, q2, q3, q4, q5, q6⟩ := h.vK
  refine (op_free (d := 0) (P := Iv (c + 1) K) h.lay.1 h.lay.2 (q2.trans q3.symm) ?_).U (by omega) (by omega)
  have f : Fz (fun a j => (a = 22 ∧ j = 2) ∨ (a = 59 ∧ j = 77)) I (zI (zI I 22 2 0) 59 77 0) := (Fz.rfl'.z (Or.inl ⟨rfl, rfl⟩)).z (Or.inr ⟨rfl, rfl⟩)
  refine h.st f (fun a j z => by unfold stS wdS smS edS trM2; omega) (fun np pid z => z.fz (fun _ => rfl) f (fun a j y => by unfold mkS at y; omega)) (h.vC.fz f (fun a j y => by unfold clS at y; omega)) (h.vB.fz f (fun a j y => by unfold byS at y; omega)) (h.vX.fz f (fun a j y => by unfold twS at y; omega)) ⟨0, ?_⟩ (h.vN.fz f (fun a j y => by unfold seS at y; omega))
  refine ⟨by omega, by rw [zI_r (by omega), zI_s]; rfl, by rw [zI_s]; rfl, fun j hj => ?_, fun j hj => ?_, ?_⟩
  · rw [f 23 j (by omega), f 110 j (by omega)]; exact q4 j hj
  · rw [f 24 j (by omega), f 111 j (by omega)]; exact q5 j hj
  · rw [show zI (zI I 22 2 0) 59 77 0 110 = I 110 from funext fun j => f 110 j (by omega), show zI (zI I 22 2 0) 59 77 0 111 = I 111 from funext fun j => f 111 j (by omega)]
    exact q6
theorem rw_clear (h : Inv c K I) : OpU n0 xX12_clear xX13_clear [] K I L (Iv (c + 1)) := by
  have hd : I 25 4 = I 59 89 := by
    obtain ⟨np, nb, pid, pts, bid, _, _, _, _, ⟨N, mp, ms, q1, q2, q3, q4⟩, _⟩ := h
    rw [q2, q3]
  refine (op_clear (d := 0) (P := Iv (c + 1) K) h.lay.1 h.lay.2 hd ?_).U (by omega) (by omega)
  have f : Fz (fun a j => (a = 25 ∧ j = 4) ∨ (a = 59 ∧ j = 89)) I (zI (zI I 25 4 0) 59 89 0) := (Fz.rfl'.z (Or.inl ⟨rfl, rfl⟩)).z (Or.inr ⟨rfl, rfl⟩)
  refine h.st f (fun a j z => by unfold stS wdS smS edS trM2; omega) (fun np pid z => ⟨0, fun _ => 0, fun _ => 0, by omega, by rw [zI_r (by omega), zI_s]; rfl, by rw [zI_s]; rfl, fun i hi => by omega⟩) (h.vC.fz f (fun a j y => by unfold clS at y; omega)) (h.vB.fz f (fun a j y => by unfold byS at y; omega)) (h.vX.fz f (fun a j y => by unfold twS at y; omega)) (h.vK.fz f (fun a j y => by unfold cdS at y; omega)) (h.vN.fz f (fun a j y => by unfold seS at y; omega))
theorem rw_put (h : Inv c K I) : OpU n0 xX12_put xX13_put [.int p0] K I L (Iv (c + 1)) := by
  obtain ⟨n, B, q1, q2, q3, q4⟩ := h.vB
  refine (op_put (d := 0) (P := Iv (c + 1) K) h.lay.1 h.lay.2 q2 q3 q1 h.hr (fun h1 h2 h3 => ?_)).U (by omega) (by omega)
  have f : Fz byS I (zI (zI (zI (zI I 35 n p0) 25 12 (nI (n + 1))) 132 n p0) 59 106 (nI (n + 1))) := by
    refine Fz.z (Fz.z (Fz.z (Fz.z Fz.rfl' ?_) ?_) ?_) ?_ <;> (unfold byS; omega)
  obtain ⟨x, x1, x2, x3⟩ := q_of h2
  refine h.st f (fun a j z => by unfold byS at z; unfold stS wdS smS edS trM2; omega) (fun np pid z => z.fz (fun _ => rfl) f (fun a j y => by unfold mkS at y; unfold byS; omega)) (h.vC.fz f (fun a j y => by unfold clS at y; unfold byS; omega)) ⟨n + 1, fun j => if j = n then x else B j, by omega, by rw [zI_r (by omega), zI_r (by omega), zI_s], zI_s, fun j hj => ?_⟩ (h.vX.fz f (fun a j y => by unfold twS at y; unfold byS; omega)) (h.vK.fz f (fun a j y => by unfold cdS at y; unfold byS; omega)) (h.vN.fz f (fun a j y => by unfold seS at y; unfold byS; omega))
  have e1 : zI (zI (zI (zI I 35 n p0) 25 12 (nI (n + 1))) 132 n p0) 59 106 (nI (n + 1)) 35 j = if j = n then p0 else I 35 j := by simp [zI_if]
  have e2 : zI (zI (zI (zI I 35 n p0) 25 12 (nI (n + 1))) 132 n p0) 59 106 (nI (n + 1)) 132 j = if j = n then p0 else I 132 j := by simp [zI_if]
  rw [e1, e2]
  show _ = nI (if j = n then x else B j) ∧ (if j = n then x else B j) ≤ 95 ∧ _ = nI (if j = n then x else B j)
  by_cases y : j = n
  · rw [if_pos y, if_pos y, if_pos y]
    exact ⟨x1, by omega, x1⟩
  · rw [if_neg y, if_neg y, if_neg y]
    exact q4 j hj
theorem rw_order (h : Inv c K I) : OpU n0 xX12_order xX13_order [.int p0, .int p1] K I L (Iv (c + 1)) := by
  obtain ⟨M, w, pn, o, q1, q2, q3, q4, q5⟩ := h.vN
  refine (op_order (d := 0) (P := Iv (c + 1) K) h.lay.1 h.lay.2 (fun i hi => by rw [(q5 i hi).1, (q5 i hi).2.1]) h.hr (fun i hi h1 h2 => ?_)).U (by omega) (by omega)
  have f : Fz (fun a _ => a = 53 ∨ a = 147) I (zI (zI I 53 i p1) 147 i p1) := (Fz.rfl'.z (Or.inl rfl)).z (Or.inr rfl)
  obtain ⟨x, x1, x2, x3⟩ := q_of h1
  refine h.st f (fun a j z => by unfold stS wdS smS edS trM2; omega) (fun np pid z => z.fz (fun _ => rfl) f (fun a j y => by unfold mkS at y; omega)) (h.vC.fz f (fun a j y => by unfold clS at y; omega)) (h.vB.fz f (fun a j y => by unfold byS at y; omega)) (h.vX.fz f (fun a j y => by unfold twS at y; omega)) (h.vK.fz f (fun a j y => by unfold cdS at y; omega)) ⟨M, w, pn, fun s => if s = i then x else o s, q1, by rw [f 52 3 (by omega)]; exact q2, by rw [f 59 124 (by omega)]; exact q3, fun m hm => ?_, fun s hs => ?_⟩
  · obtain ⟨a1, a2, a3, a4, a5, a6, a7⟩ := q4 m hm
    exact ⟨by rw [f 55 m (by omega)]; exact a1, by rw [f 149 m (by omega)]; exact a2, a3, a4, by rw [f 148 m (by omega)]; exact a5, a6, fun s hs => by rw [f 54 _ (by omega)]; exact a7 s hs⟩
  · have e1 : zI (zI I 53 i p1) 147 i p1 53 s = if s = i then p1 else I 53 s := by simp [zI_if]
    have e2 : zI (zI I 53 i p1) 147 i p1 147 s = if s = i then p1 else I 147 s := by simp [zI_if]
    rw [e1, e2]
    show _ = nI (if s = i then x else o s) ∧ _ = nI (if s = i then x else o s) ∧ (if s = i then x else o s) ≤ 99
    by_cases y : s = i
    · rw [if_pos y, if_pos y, if_pos y]
      exact ⟨x1, x1, by omega⟩
    · rw [if_neg y, if_neg y, if_neg y]
      exact q5 s hs
theorem rw_marker (h : Inv c K I) : OpU n0 xX12_marker xX13_marker [.int p0, .int p1] K I L (Iv (c + 1)) := by
  obtain ⟨M, w, pn, o, q1, q2, q3, q4, q5⟩ := h.vN
  refine (op_marker (d := 0) (P := Iv (c + 1) K) h.lay.1 h.lay.2 q2 q3 q1 h.hr (fun x h1 h2 h3 h4 h5 h6 => ?_)).U (by omega) (by omega)
  have f0 : Fz seS I (mkI I M x 0) := fun a j z => by
    have : a ≠ 54 := by unfold seS at z; omega
    simp only [mkI, if_neg this]
  have f : Fz seS I (zI (zI (zI (zI (zI (mkI I M x 0) 55 M p1) 52 3 (nI (M + 1))) 148 M (nI x)) 149 M p1) 59 124 (nI (M + 1))) := by
    refine Fz.z (Fz.z (Fz.z (Fz.z (Fz.z f0 ?_) ?_) ?_) ?_) ?_ <;> (unfold seS; omega)
  obtain ⟨y, y1, y2, y3⟩ := q_of (show 0 ≤ p1.toInt by omega)
  have m54 : ∀ k, mkI I M x 0 54 k = if 5 * M ≤ k ∧ k < 5 * M + 5 then nI (x / 10 ^ (k - 5 * M) % 10) else I 54 k := fun k => by simp only [mkI, if_true, Nat.add_zero]
  have mo : ∀ a, a ≠ 54 → mkI I M x 0 a = I a := fun a z => by simp only [mkI, if_neg z]
  refine h.st f (fun a j z => by unfold seS at z; unfold stS wdS smS edS trM2; omega) (fun np pid z => z.fz (fun _ => rfl) f (fun a j y => by unfold mkS at y; unfold seS; omega)) (h.vC.fz f (fun a j y => by unfold clS at y; unfold seS; omega)) (h.vB.fz f (fun a j y => by unfold byS at y; unfold seS; omega)) (h.vX.fz f (fun a j y => by unfold twS at y; unfold seS; omega)) (h.vK.fz f (fun a j y => by unfold cdS at y; unfold seS; omega)) ⟨M + 1, fun m => if m = M then y else w m, fun m => if m = M then x else pn m, o, by omega, by rw [zI_r (by omega), zI_r (by omega), zI_r (by omega), zI_s], zI_s, fun m hm => ?_, fun s hs => ?_⟩
  · have e1 : zI (zI (zI (zI (zI (mkI I M x 0) 55 M p1) 52 3 (nI (M + 1))) 148 M (nI x)) 149 M p1) 59 124 (nI (M + 1)) 55 m = if m = M then p1 else I 55 m := by simp [zI_if, mo]
    have e2 : zI (zI (zI (zI (zI (mkI I M x 0) 55 M p1) 52 3 (nI (M + 1))) 148 M (nI x)) 149 M p1) 59 124 (nI (M + 1)) 149 m = if m = M then p1 else I 149 m := by simp [zI_if, mo]
    have e3 : zI (zI (zI (zI (zI (mkI I M x 0) 55 M p1) 52 3 (nI (M + 1))) 148 M (nI x)) 149 M p1) 59 124 (nI (M + 1)) 148 m = if m = M then nI x else I 148 m := by simp [zI_if, mo]
    have e4 : ∀ k, zI (zI (zI (zI (zI (mkI I M x 0) 55 M p1) 52 3 (nI (M + 1))) 148 M (nI x)) 149 M p1) 59 124 (nI (M + 1)) 54 k = if 5 * M ≤ k ∧ k < 5 * M + 5 then nI (x / 10 ^ (k - 5 * M) % 10) else I 54 k := fun k => by rw [← m54]; simp [zI_if]
    rw [e1, e2, e3]
    simp only [e4, cS]
    by_cases z : m = M
    · simp only [if_pos z]
      exact ⟨y1, y1, by omega, by omega, trivial, h2, fun s hs => by rw [if_pos (by omega), z, Nat.add_sub_cancel_left]⟩
    · obtain ⟨a1, a2, a3, a4, a5, a6, a7⟩ := q4 m (by omega)
      simp only [if_neg z]
      exact ⟨a1, a2, a3, a4, a5, a6, fun s hs => by rw [if_neg (by omega)]; exact a7 s hs⟩
  · have e1 : zI (zI (zI (zI (zI (mkI I M x 0) 55 M p1) 52 3 (nI (M + 1))) 148 M (nI x)) 149 M p1) 59 124 (nI (M + 1)) 53 s = I 53 s := by simp [zI_if, mo]
    have e2 : zI (zI (zI (zI (zI (mkI I M x 0) 55 M p1) 52 3 (nI (M + 1))) 148 M (nI x)) 149 M p1) 59 124 (nI (M + 1)) 147 s = I 147 s := by simp [zI_if, mo]
    rw [e1, e2]
    exact q5 s hs
theorem byt_nn (v : Int64) (j : Nat) : 0 ≤ (byt v j).toInt := by
  unfold byt
  generalize ((v : Int64) >>> (((8 * nI j) : Int32).toInt64 &&& 63 : Int64)) = x
  have : ((x &&& 255).toInt32) = x.toInt32 &&& 255 := by
    apply Int32.toBitVec_inj.mp
    simp
  rw [this]
  have hb : (x.toInt32 &&& 255).toBitVec.msb = false := by
    simp
    intro _
    rfl
  have := BitVec.toInt_eq_toNat_of_msb hb
  show 0 ≤ (x.toInt32 &&& 255).toBitVec.toInt
  rw [this]
  omega
theorem rw_feed {v : Int64} (h : Inv c K I) : OpU n0 xX12_feed xX13_feed [.int p0, .long v] K I L (Iv (c + 1)) := by
  obtain ⟨n, q1, q2, q3, q4⟩ := h.vX
  refine (op_feed (d := 0) (P := Iv (c + 1) K) h.lay.1 h.lay.2 q1 q2 q3 h.hr (fun m h1 h2 h3 h4 => ?_)).U (by omega) (by omega)
  have f0 : ∀ (J : z_I) (r o f : Nat), (r = 6 ∨ r = 76) → ((o = 5 ∧ f = 1) ∨ (o = 59 ∧ f = 21)) → Fz twS J (fdI J r o f n v 0 m) := fun J r o f hr ho a j z => by
    unfold fdI
    rw [zI_d (by unfold twS at z; omega)]
    simp only [if_neg (show a ≠ r by unfold twS at z; omega)]
  have f : Fz twS I (fdI (fdI I 6 5 1 n v 0 m) 76 59 21 n v 0 m) := fun a j z => (f0 _ 76 59 21 (Or.inr rfl) (Or.inr ⟨rfl, rfl⟩) a j z).trans (f0 _ 6 5 1 (Or.inl rfl) (Or.inl ⟨rfl, rfl⟩) a j z)
  have g : ∀ (J : z_I) (r o f : Nat), r ≠ o → ∀ k, fdI J r o f n v 0 m r k = if n ≤ k ∧ k < n + m then byt v (k - n) else J r k := fun J r o f hr k => by
    unfold fdI
    rw [zI_r hr]
    simp only [if_true, Nat.add_zero]
  have g2 : ∀ (J : z_I) (r o f x : Nat), x ≠ r → x ≠ o → fdI J r o f n v 0 m x = J x := fun J r o f x ha hb => by
    unfold fdI
    rw [zI_r hb]
    simp only [if_neg ha]
  refine h.st f (fun a j z => by unfold twS at z; unfold stS wdS smS edS trM2; omega) (fun np pid z => z.fz (fun _ => rfl) f (fun a j y => by unfold mkS at y; unfold twS; omega)) (h.vC.fz f (fun a j y => by unfold clS at y; unfold twS; omega)) (h.vB.fz f (fun a j y => by unfold byS at y; unfold twS; omega)) ⟨n + m, ?_, ?_, h3, fun k hk => ?_⟩ (h.vK.fz f (fun a j y => by unfold cdS at y; unfold twS; omega)) (h.vN.fz f (fun a j y => by unfold seS at y; unfold twS; omega))
  · rw [g2 _ _ _ _ 5 (by omega) (by omega)]; exact zI_s
  · exact zI_s
  · rw [g2 _ _ _ _ 6 (by omega) (by omega), g _ _ _ _ (by omega), g _ _ _ _ (by omega), g2 _ _ _ _ 76 (by omega) (by omega)]
    by_cases y : n ≤ k ∧ k < n + m
    · rw [if_pos y, if_pos y]
      exact ⟨rfl, byt_nn _ _⟩
    · rw [if_neg y, if_neg y]
      exact q4 k (by omega)
theorem rw_judge (h : Inv c K I) : OpU n0 xX12_judge xX13_judge [] K I L (Iv (c + 1)) := by
  have f : Fz (fun a j => (a = 25 ∧ j = 12) ∨ (a = 59 ∧ j = 106)) I (zI (zI I 25 12 0) 59 106 0) := (Fz.rfl'.z (Or.inl ⟨rfl, rfl⟩)).z (Or.inr ⟨rfl, rfl⟩)
  have h0 : Inv (c + 1) K (zI (zI I 25 12 0) 59 106 0) := by
    obtain ⟨n, B, q1, q2, q3, q4⟩ := h.vB
    refine h.st f (fun a j z => by unfold stS wdS smS edS trM2; omega) (fun np pid z => z.fz (fun _ => rfl) f (fun a j y => by unfold mkS at y; omega)) (h.vC.fz f (fun a j y => by unfold clS at y; omega)) ⟨0, B, by omega, by rw [zI_r (by omega), zI_s]; rfl, by rw [zI_s]; rfl, fun j hj => ?_⟩ (h.vX.fz f (fun a j y => by unfold twS at y; omega)) (h.vK.fz f (fun a j y => by unfold cdS at y; omega)) (h.vN.fz f (fun a j y => by unfold seS at y; omega))
    rw [f 35 j (by omega), f 132 j (by omega)]
    exact q4 j hj
  have h' := h
  obtain ⟨np, nb, pid, pts, bid, ⟨nr, na, t, rid, rp, rk, ln, cx, cy, m, par, X, Y, A, hW, hB, ht⟩, _, _, _, ⟨N, mp, ms, hMk⟩, ⟨_, ⟨cw, ow, st, hcl⟩, _⟩, ⟨nb2, B, hby⟩, _⟩ := h
  exact (op_judge (d := 0) (P := Iv (c + 1)) hW hB hMk hcl hby (fun K' I' L' hk hf => h0.fX hk hf) h'.s1).U (by omega) (by omega) (by omega) (by omega)
end STA
