/-! rows of the calls that write to seams, editions, trials, the marker, what is withdrawn -/
def rsS (a j : Nat) : Prop := byS a j ∨ twS a j ∨ cdS a j ∨ seS a j ∨ clS a j ∨ (a = 59 ∧ j = 0) ∨ a = 1 ∨ a = 75
section RW2
variable {n0 c : Nat} {K K' : z_K} {I I' : z_I} {L : z_L} {S R : Nat → Nat → Prop} {np nb ns ne : Nat} {sid eid pid bid pts : Nat → Nat} {p0 p1 p2 p3 p4 p5 p6 p7 : Int32}
theorem Inv.sr (h : Inv c K I) (hI : Fz S I I') (hs : ∀ a j, rsS a j → ¬ S a j) (hz : IvZ I') : IvC I' ∧ IvB I' ∧ IvX I' ∧ IvK I' ∧ IvN I' ∧ IvD I' ∧ IvR I' := by
  obtain ⟨np, nb, pid, pts, bid, hA, hS, hE, hT, hM, hC, hB, hX, hK, hN, hG, hD, hR⟩ := h
  refine ⟨hC.fz hI (fun a j z => hs a j (by unfold rsS; simp only [z, true_or, or_true])), hB.fz hI (fun a j z => hs a j (Or.inl z)), hX.fz hI (fun a j z => hs a j (Or.inr (Or.inl z))), hK.fz hI (fun a j z => hs a j (Or.inr (Or.inr (Or.inl z)))), hN.fz hI (fun a j z => hs a j (Or.inr (Or.inr (Or.inr (Or.inl z))))), ?_, fun k hk => ?_⟩
  · exact hD.fz hI (hs _ _ (by unfold rsS; omega)) hz
  · rw [hI 1 k (hs _ _ (by unfold rsS; omega)), hI 75 k (hs _ _ (by unfold rsS; omega))]
    exact hR k hk
theorem z_nat {a b : Nat} {x : Int32} (h1 : x = nI a) (h2 : x = nI b) (ha : a < 1000) (hb : b < 1000) : a = b := by
  have : (nI a).toInt = (nI b).toInt := by rw [← h1, ← h2]
  rw [q_nI (by omega), q_nI (by omega)] at this
  omega
theorem KE.of (h152 : 152 ≤ K.1) (hC : CLay K') (hM : MLay K') (k1 : K.1 ≤ K'.1) (k2 : ∀ a, a < K.1 → K'.2.1 a = K.2.1 a) (kr : ∀ a j, a < K.1 → ¬ R a j → K'.2.2 a j = K.2.2 a j) (hR : ∀ a j, R a j → a = 21 ∨ a = 51 ∨ a = 27 ∨ (152 ≤ a ∧ (K.2.1 a).1 = 35)) : KE K K' np nb := by
  refine ⟨hC, hM, k1, k2, fun p _ => kr 4 p (by omega) (fun z => ?_), fun p _ => kr 3 p (by omega) (fun z => ?_), fun p => kr 2 p (by omega) (fun z => ?_), fun a j ha hl h35 => kr a j hl (fun z => ?_)⟩ <;> (have := hR _ _ z; omega)
theorem SmK.dis (h : SmK K ns sid) {s i x y : Nat} (hs : s < ns) (hi : i < ns) (hx : x ≤ 2) (hy : y ≤ 2) (e : sid s + x = sid i + y) : s = i ∧ x = y := by
  have a := hm_s h hs hx
  rw [e] at a
  have b := a.u (hm_s h hi hy)
  have := h.2.2 s i hs hi b
  omega
theorem EdK.dis (h : EdK K ne eid) {s i x y : Nat} (hs : s < ne) (hi : i < ne) (hx : x ≤ 5) (hy : y ≤ 5) (e : eid s + x = eid i + y) : s = i ∧ x = y := by
  have a := hm_e h hs hx
  rw [e] at a
  have b := a.u (hm_e h hi hy)
  have := h.2.2 s i hs hi b
  omega
theorem rw_lays (h : Inv c K I) : OpU n0 xX12_lays xX13_lays [.int p0, .int p1] K I L (Iv (c + 1)) := by
  have h' := h
  obtain ⟨hC0, hM0⟩ := h.lay
  obtain ⟨np, nb, pid, pts, bid, hA, hS, hE, hT, ⟨N, mp, ms, q1, q2, q3, q4⟩, _, _, _, _, _, hG, _, _⟩ := h
  have h152 := hA.lay.2.2
  have hA' := hA
  obtain ⟨nr, na, t, rid, rp, rk, ln, cx, cy, m, par, X, Y, A, hW, hB, ht⟩ := hA'
  refine (op_lays (d := 0) (P := Iv (c + 1)) hC0 hM0 hA.pk hW.2.2.2.2.1 q2 q3 q1 h'.hr (fun i j hi hj h4 e1 e2 => ?_)).U (by omega) (by omega) (by omega) (by omega)
  have f : Fz mkS I (zI (zI (zI (zI (zI I 28 N (nI j)) 25 4 (nI (N + 1))) 117 N (nI i)) 118 N (nI j)) 59 89 (nI (N + 1))) := by
    refine Fz.z (Fz.z (Fz.z (Fz.z (Fz.z Fz.rfl' ?_) ?_) ?_) ?_) ?_ <;> (unfold mkS; omega)
  obtain ⟨r1, r2, r3, r4, r5, r6, r7⟩ := h'.sr f (fun a j z => by unfold rsS byS twS cdS seS clS at z; unfold mkS; omega) (h'.vD.2.fz f (fun a j z => by unfold zzS at z; unfold mkS; omega))
  have o : ∀ {P : Nat → Nat → Nat → Prop} (a j : Nat), mkS a j → 152 ≤ a → a < K.1 → ∃ o, Hm K a o ∧ P a j o := fun a j y z _ => by unfold mkS at y; omega
  have kr : ∀ a j, a ≠ 27 → (zR K 27 N (some (pid i))).2.2 a j = K.2.2 a j := fun a j z => by rw [zR_ne z]
  refine ⟨np, nb, pid, pts, bid, hA.fz ⟨hC0.zR (by decide), hM0.zR (by omega), Nat.le_refl _, fun _ _ => rfl, fun p _ => kr 4 p (by omega), fun p _ => kr 3 p (by omega), fun p => kr 2 p (by omega), fun a j z _ _ => kr a j (by omega)⟩ f ⟨fun a j z => by unfold wdS at z; unfold mkS; omega, o⟩ (by omega), hS.fz (Nat.le_refl _) (fun _ _ => rfl) (fun j => kr 21 j (by omega)) (fun a j z _ _ => kr a j (by omega)) f (fun a j z => by unfold smS at z; unfold mkS; omega) o, hE.fz (Nat.le_refl _) (fun _ _ => rfl) (fun j => kr 51 j (by omega)) (fun a j z _ _ => kr a j (by omega)) f (fun a j z => by unfold edS at z; unfold mkS; omega) o, hT.fz hA.bk f (fun a j z => by unfold trM2 at z; unfold mkS; omega) o, ⟨N + 1, fun k => if k = N then i else mp k, fun k => if k = N then j else ms k, by omega, by simp [zI_if], by simp [zI_if], fun k hk => ?_⟩, r1, r2, r3, r4, r5, hG.fz hA.pk f (fun j => by unfold mkS; omega) o, r6, r7⟩
  by_cases y : k = N
  · subst y
    simp only [if_true]
    exact ⟨hi, hj, zR_e, by simp [zI_if], by simp [zI_if], by simp [zI_if]⟩
  · obtain ⟨a1, a2, a3, a4, a5, a6⟩ := q4 k (by omega)
    simp only [if_neg y]
    exact ⟨a1, a2, by rw [zR_o y]; exact a3, by simp [zI_if, y]; exact a4, by simp [zI_if, y]; exact a5, by simp [zI_if, y]; exact a6⟩
theorem rw_withdraw (h : Inv c K I) : OpU n0 xX12_withdraw xX13_withdraw [.int p0] K I L (Iv (c + 1)) := by
  have h' := h
  obtain ⟨hC0, hM0⟩ := h.lay
  obtain ⟨np, nb, pid, pts, bid, hA, hS, hE, hT, hM, _, _, _, _, _, hG, _, _⟩ := h
  have h152 := hA.lay.2.2
  have hA' := hA
  obtain ⟨nr, na, t, rid, rp, rk, ln, cx, cy, m, par, X, Y, A, hW, hB, ht⟩ := hA'
  refine (op_withdraw (d := 0) (P := Iv (c + 1) K) hC0 hM0 hA.pk hW.2.2.2.2.1 hG h'.hr (fun i hi e1 e2 => ?_)).U (by omega) (by omega)
  have f : Fz (fun a j => (a = pid i ∧ j = 4) ∨ (a = 69 ∧ j = i)) I (zI (zI I (pid i) 4 1) 69 i 1) := (Fz.rfl'.z (Or.inl ⟨rfl, rfl⟩)).z (Or.inr ⟨rfl, rfl⟩)
  have g := hA.pk.ge hi
  have hh := hm_p hA.pk hi (show 0 ≤ 6 by omega)
  have cl := hA.pk.cls hi
  obtain ⟨r1, r2, r3, r4, r5, r6, r7⟩ := h'.sr f (fun a j z => by unfold rsS byS twS cdS seS clS at z; omega) (h'.vD.2.ft f (fun x1 x2 x3 y1 y2 y3 w1 w2 w3 a j z => by have := z_nat w1 hW.2.2.2.2.1.2.1 (by omega) (by have := hA.pk.1; omega); omega))
  refine ⟨np, nb, pid, pts, bid, hA.fz (KE.rf hC0 hM0) f ⟨fun a j z => by unfold wdS at z; omega, fun a j z z1 z2 => ⟨pid i, ?_, ?_⟩⟩ (by omega), hS.fz (Nat.le_refl _) (fun _ _ => rfl) (fun _ => rfl) (fun _ _ _ _ _ => rfl) f (fun a j z => by unfold smS at z; omega) (fun a j z z1 z2 => ⟨pid i, ?_, by rw [cl]; omega⟩), hE.fz (Nat.le_refl _) (fun _ _ => rfl) (fun _ => rfl) (fun _ _ _ _ _ => rfl) f (fun a j z => by unfold edS at z; omega) (fun a j z z1 z2 => ⟨pid i, ?_, by rw [cl]; omega⟩), hT.fz hA.bk f (fun a j z => by unfold trM2 at z; omega) (fun a j z z1 z2 => ⟨pid i, ?_, by rw [cl]; omega⟩), hM.fz (fun _ => rfl) f (fun a j z => by unfold mkS at z; omega), r1, r2, r3, r4, r5, fun k hk => ?_, r6, r7⟩
  · rw [show a = pid i by omega]; exact hh
  · rw [cl]; omega
  · rw [show a = pid i by omega]; exact hh
  · rw [show a = pid i by omega]; exact hh
  · rw [show a = pid i by omega]; exact hh
  · have gk := hA.pk.ge hk
    by_cases y : k = i
    · subst y
      rw [zI_s, zI_r (by omega), zI_s]
    · have : pid k ≠ pid i := fun z => y (hA.pk.2.2 _ _ hk hi z)
      rw [zI_r (by omega), zI_r this, zI_d (by omega), zI_r (by omega)]
      exact hG k hk
theorem rw_gather (h : Inv c K I) : OpU n0 xX12_gather xX13_gather [.int p0, .int p1] K I L (Iv (c + 1)) := by
  have h' := h
  obtain ⟨hC0, hM0⟩ := h.lay
  obtain ⟨np, nb, pid, pts, bid, hA, ⟨ns, sid, s1, s2, sa, sb, sc, se, nc, b1, b2, b3, b4⟩, hE, hT, hM, _, _, _, _, _, hG, _, _⟩ := h
  have h152 := hA.lay.2.2
  refine (op_gather (d := 0) (P := Iv (c + 1) K) hC0 hM0 b1 b2 (fun i hi => (b4 i hi).2.2.2.1) h'.hr (fun i hi e1 e2 => ?_)).U (by omega) (by omega)
  have f : Fz (fun a j => (a = sid i ∧ j = 8) ∨ (a = 106 ∧ j = i)) I (zI (zI I (sid i) 8 p1) 106 i p1) := (Fz.rfl'.z (Or.inl ⟨rfl, rfl⟩)).z (Or.inr ⟨rfl, rfl⟩)
  have hh := hm_s b1 hi (show 0 ≤ 2 by omega)
  obtain ⟨_, g, _, cl, _⟩ := b1.2.1 i hi
  obtain ⟨r1, r2, r3, r4, r5, r6, r7⟩ := h'.sr f (fun a j z => by unfold rsS byS twS cdS seS clS at z; omega) (h'.vD.2.ft f (fun x1 x2 x3 y1 y2 y3 w1 w2 w3 a j z => by have := z_nat w2 b2.2 (by omega) (by have := b1.1; omega); omega))
  refine ⟨np, nb, pid, pts, bid, hA.fz (KE.rf hC0 hM0) f ⟨fun a j z => by unfold wdS at z; omega, fun a j z z1 z2 => ⟨sid i, ?_, ?_⟩⟩ (by omega), ⟨ns, sid, s1, s2, sa, sb, sc, se, nc, b1, ⟨by rw [f 0 13 (by omega)]; exact b2.1, by rw [f 59 62 (by omega)]; exact b2.2⟩, fun s hs => ?_, fun s hs => ?_⟩, hE.fz (Nat.le_refl _) (fun _ _ => rfl) (fun _ => rfl) (fun _ _ _ _ _ => rfl) f (fun a j z => by unfold edS at z; omega) (fun a j z z1 z2 => ⟨sid i, ?_, by rw [cl]; omega⟩), hT.fz hA.bk f (fun a j z => by unfold trM2 at z; omega) (fun a j z z1 z2 => ⟨sid i, ?_, by rw [cl]; omega⟩), hM.fz (fun _ => rfl) f (fun a j z => by unfold mkS at z; omega), r1, r2, r3, r4, r5, hG.fz hA.pk f (fun j => by omega) (fun a j z z1 z2 => ⟨sid i, ?_, by rw [cl]; omega⟩), r6, r7⟩
  · rw [show a = sid i by omega]; exact hh
  · rw [cl]; omega
  · have q := b3 s hs
    have gs := (b1.2.1 s hs).2.1
    rw [f (sid s) 1 (by omega), f (sid s) 2 (by omega), f (sid s) 6 (by omega), f (sid s) 7 (by omega), f (sid s) 3 (by omega), f (sid s) 4 (by omega), f 98 s (by omega), f 99 s (by omega), f 100 s (by omega), f 101 s (by omega), f 102 s (by omega), f 103 s (by omega), f 104 s (by omega), f 105 s (by omega)]
    exact q
  · obtain ⟨g1, g2, g3, g4, g5⟩ := b4 s hs
    have gs := (b1.2.1 s hs).2.1
    refine ⟨g1, by rw [f (sid s) 11 (by omega)]; exact g2, by rw [f 107 s (by omega)]; exact g3, ?_, fun k hk => ?_⟩
    · by_cases y : s = i
      · subst y
        rw [zI_s, zI_r (by omega), zI_s]
      · have : sid s ≠ sid i := fun z => y (b1.2.2 _ _ hs hi z)
        rw [zI_r (by omega), zI_r this, zI_d (by omega), zI_r (by omega)]
        exact g4
    · have d1 : sid s + 1 ≠ sid i := fun z => by have := b1.dis (y := 0) hs hi (show 1 ≤ 2 by omega) (by omega) z; omega
      have d2 : sid s + 2 ≠ sid i := fun z => by have := b1.dis (y := 0) hs hi (show 2 ≤ 2 by omega) (by omega) z; omega
      rw [f (sid s + 1) k (by omega), f (sid s + 2) k (by omega), f 108 _ (by omega), f 109 _ (by omega)]
      exact g5 k hk
  · rw [show a = sid i by omega]; exact hh
  · rw [show a = sid i by omega]; exact hh
  · rw [show a = sid i by omega]; exact hh
theorem rw_notch (h : Inv c K I) : OpU n0 xX12_notch xX13_notch [.int p0, .int p1, .int p2] K I L (Iv (c + 1)) := by
  have h' := h
  obtain ⟨hC0, hM0⟩ := h.lay
  obtain ⟨np, nb, pid, pts, bid, hA, ⟨ns, sid, s1, s2, sa, sb, sc, se, nc, b1, b2, b3, b4⟩, hE, hT, hM, _, _, _, _, _, hG, _, _⟩ := h
  have h152 := hA.lay.2.2
  refine (op_notch (d := 0) (P := Iv (c + 1) K) hC0 hM0 b1 b2 (fun i hi => ⟨(b4 i hi).2.1, (b4 i hi).2.2.1, (b4 i hi).1⟩) h'.hr (fun i hi h6 e1 e2 e3 e4 => ?_)).U (by omega) (by omega)
  have e1 : 0 ≤ p1.toInt := Int.not_lt.mp (fun z => e1 (q_lt.mpr z))
  have e2 : 0 ≤ p2.toInt := Int.not_lt.mp (fun z => e2 (q_lt.mpr z))
  have e3 : p1.toInt ≤ 99999 := Int.not_lt.mp (fun z => e3 (q_lt.mpr z))
  have e4 : p2.toInt ≤ 99999 := Int.not_lt.mp (fun z => e4 (q_lt.mpr z))
  have f : Fz (fun a j => (a = sid i + 1 ∧ j = nc i) ∨ (a = sid i + 2 ∧ j = nc i) ∨ (a = sid i ∧ j = 11) ∨ (a = 108 ∧ j = 6 * i + nc i) ∨ (a = 109 ∧ j = 6 * i + nc i) ∨ (a = 107 ∧ j = i)) I (zI (zI (zI (zI (zI (zI I (sid i + 1) (nc i) p1) (sid i + 2) (nc i) p2) (sid i) 11 (nI (nc i + 1))) 108 (6 * i + nc i) p1) 109 (6 * i + nc i) p2) 107 i (nI (nc i + 1))) := by
    refine Fz.z (Fz.z (Fz.z (Fz.z (Fz.z (Fz.z Fz.rfl' ?_) ?_) ?_) ?_) ?_) ?_ <;> omega
  obtain ⟨_, g, _, cl, _⟩ := b1.2.1 i hi
  have hm : ∀ a, 152 ≤ a → (a = sid i ∨ a = sid i + 1 ∨ a = sid i + 2) → Hm K a (sid i) := fun a _ z => by
    rcases z with z | z | z <;> subst z
    · exact hm_s b1 hi (show 0 ≤ 2 by omega)
    · exact hm_s b1 hi (show 1 ≤ 2 by omega)
    · exact hm_s b1 hi (show 2 ≤ 2 by omega)
  obtain ⟨r1, r2, r3, r4, r5, r6, r7⟩ := h'.sr f (fun a j z => by unfold rsS byS twS cdS seS clS at z; omega) (h'.vD.2.ft f (fun x1 x2 x3 y1 y2 y3 w1 w2 w3 a j z => by have := z_nat w2 b2.2 (by omega) (by have := b1.1; omega); omega))
  refine ⟨np, nb, pid, pts, bid, hA.fz (KE.rf hC0 hM0) f ⟨fun a j z => by unfold wdS at z; omega, fun a j z z1 z2 => ⟨sid i, hm a z1 (by omega), ?_⟩⟩ (by omega), ⟨ns, sid, s1, s2, sa, sb, sc, se, fun s => if s = i then nc i + 1 else nc s, b1, ⟨by rw [f 0 13 (by omega)]; exact b2.1, by rw [f 59 62 (by omega)]; exact b2.2⟩, fun s hs => ?_, fun s hs => ?_⟩, hE.fz (Nat.le_refl _) (fun _ _ => rfl) (fun _ => rfl) (fun _ _ _ _ _ => rfl) f (fun a j z => by unfold edS at z; omega) (fun a j z z1 z2 => ⟨sid i, hm a z1 (by omega), by rw [cl]; omega⟩), hT.fz hA.bk f (fun a j z => by unfold trM2 at z; omega) (fun a j z z1 z2 => ⟨sid i, hm a z1 (by omega), by rw [cl]; omega⟩), hM.fz (fun _ => rfl) f (fun a j z => by unfold mkS at z; omega), r1, r2, r3, r4, r5, hG.fz hA.pk f (fun j => by omega) (fun a j z z1 z2 => ⟨sid i, hm a z1 (by omega), by rw [cl]; omega⟩), r6, r7⟩
  · rw [cl]; omega
  · have q := b3 s hs
    have gs := (b1.2.1 s hs).2.1
    have d1 : sid s ≠ sid i + 1 := fun z => by have := b1.dis (x := 0) (y := 1) hs hi (by omega) (by omega) z; omega
    have d2 : sid s ≠ sid i + 2 := fun z => by have := b1.dis (x := 0) (y := 2) hs hi (by omega) (by omega) z; omega
    rw [f (sid s) 1 (by omega), f (sid s) 2 (by omega), f (sid s) 6 (by omega), f (sid s) 7 (by omega), f (sid s) 3 (by omega), f (sid s) 4 (by omega), f 98 s (by omega), f 99 s (by omega), f 100 s (by omega), f 101 s (by omega), f 102 s (by omega), f 103 s (by omega), f 104 s (by omega), f 105 s (by omega)]
    exact q
  · obtain ⟨g1, g2, g3, g4, g5⟩ := b4 s hs
    have gs := (b1.2.1 s hs).2.1
    have d1 : sid s ≠ sid i + 1 := fun z => by have := b1.dis (x := 0) (y := 1) hs hi (by omega) (by omega) z; omega
    have d2 : sid s ≠ sid i + 2 := fun z => by have := b1.dis (x := 0) (y := 2) hs hi (by omega) (by omega) z; omega
    have e8 : ∀ z, (zI (zI (zI (zI (zI (zI I (sid i + 1) (nc i) p1) (sid i + 2) (nc i) p2) (sid i) 11 (nI (nc i + 1))) 108 (6 * i + nc i) p1) 109 (6 * i + nc i) p2) 107 i (nI (nc i + 1))) 108 z = if z = 6 * i + nc i then p1 else I 108 z := fun z => by
      simp [zI_if, show ¬ 108 = sid i by omega, show ¬ 108 = sid i + 1 by omega, show ¬ 108 = sid i + 2 by omega]
    have e9 : ∀ z, (zI (zI (zI (zI (zI (zI I (sid i + 1) (nc i) p1) (sid i + 2) (nc i) p2) (sid i) 11 (nI (nc i + 1))) 108 (6 * i + nc i) p1) 109 (6 * i + nc i) p2) 107 i (nI (nc i + 1))) 109 z = if z = 6 * i + nc i then p2 else I 109 z := fun z => by
      simp [zI_if, show ¬ 109 = sid i by omega, show ¬ 109 = sid i + 1 by omega, show ¬ 109 = sid i + 2 by omega]
    simp only [e8, e9]
    by_cases y : s = i
    · subst y
      simp only [if_true]
      refine ⟨by omega, ?_, zI_s, ?_, fun k hk => ?_⟩
      · rw [zI_r (by omega), zI_r (by omega), zI_r (by omega), zI_s]
      · rw [f (sid s) 8 (by omega), f 106 s (by omega)]; exact g4
      · have v1 : (zI (zI (zI (zI (zI (zI I (sid s + 1) (nc s) p1) (sid s + 2) (nc s) p2) (sid s) 11 (nI (nc s + 1))) 108 (6 * s + nc s) p1) 109 (6 * s + nc s) p2) 107 s (nI (nc s + 1))) (sid s + 1) k = if k = nc s then p1 else I (sid s + 1) k := by
          rw [zI_r (by omega), zI_r (by omega), zI_r (by omega), zI_r (by omega), zI_r (by omega), zI_if]; simp only [true_and]
        have v2 : (zI (zI (zI (zI (zI (zI I (sid s + 1) (nc s) p1) (sid s + 2) (nc s) p2) (sid s) 11 (nI (nc s + 1))) 108 (6 * s + nc s) p1) 109 (6 * s + nc s) p2) 107 s (nI (nc s + 1))) (sid s + 2) k = if k = nc s then p2 else I (sid s + 2) k := by
          rw [zI_r (by omega), zI_r (by omega), zI_r (by omega), zI_r (by omega), zI_if, zI_r (show sid s + 2 ≠ sid s + 1 by omega)]; simp only [true_and]
        rw [v1, v2]
        by_cases w : k = nc s
        · rw [if_pos w, if_pos w, if_pos (by omega), if_pos (by omega)]
          exact ⟨rfl, rfl, ⟨e1, e3⟩, e2, e4⟩
        · rw [if_neg w, if_neg w, if_neg (by omega), if_neg (by omega)]
          exact g5 k (by omega)
    · simp only [if_neg y]
      have d0 : sid s ≠ sid i := fun z => y (b1.2.2 _ _ hs hi z)
      refine ⟨g1, by rw [f (sid s) 11 (by omega)]; exact g2, by rw [f 107 s (by omega)]; exact g3, by rw [f (sid s) 8 (by omega), f 106 s (by omega)]; exact g4, fun k hk => ?_⟩
      have d3 : ∀ x y, x ≤ 2 → y ≤ 2 → sid s + x ≠ sid i + y := fun x y' hx hy z => y (b1.dis hs hi hx hy z).1
      have a0 := d3 1 0 (by omega) (by omega)
      have a1 := d3 1 1 (by omega) (by omega)
      have a2 := d3 1 2 (by omega) (by omega)
      have c0 := d3 2 0 (by omega) (by omega)
      have c1 := d3 2 1 (by omega) (by omega)
      have c2 := d3 2 2 (by omega) (by omega)
      rw [f (sid s + 1) k (by omega), f (sid s + 2) k (by omega), if_neg (by omega), if_neg (by omega)]
      exact g5 k hk
end RW2
