/-! rows of seam, edition, word, trial, holds -/
section RW3
variable {n0 c : Nat} {K K' : z_K} {I I' : z_I} {L : z_L} {S R : Nat → Nat → Prop} {np nb ns ne : Nat} {sid eid pid bid pts : Nat → Nat} {p0 p1 p2 p3 p4 p5 p6 p7 : Int32}
theorem rw_word (h : Inv c K I) : OpU n0 xX12_word xX13_word [.int p0, .int p1, .int p2, .int p3] K I L (Iv (c + 1)) := by
  have h' := h
  obtain ⟨hC0, hM0⟩ := h.lay
  obtain ⟨np, nb, pid, pts, bid, hA, hS, ⟨ne, eid, lc, hp, wc, wi, hz, b1, b2, b3, b4, b5⟩, hT, hM, _, _, _, _, _, hG, _, _⟩ := h
  have h152 := hA.lay.2.2
  refine (op_word (d := 0) (P := Iv (c + 1) K) hC0 hM0 b1 b2 b3 (fun i hi => ⟨(b4 i hi).2.1, (b4 i hi).2.2.1, (b4 i hi).1⟩) (fun i hi => ⟨(b5 i hi).2.1, (b5 i hi).2.2.1, (b5 i hi).1⟩) h'.hr (fun i j hi hj h12 e1 e2 w1 w2 v1 v2 => ?_)).U (by omega) (by omega)
  have f : Fz (fun a k => (a = eid i + 3 ∧ k = wc i) ∨ (a = eid i + 4 ∧ k = wc i) ∨ (a = eid i + 5 ∧ k = wc i) ∨ (a = eid i ∧ k = 7) ∨ (a = 144 ∧ k = 12 * i + wc i) ∨ (a = 145 ∧ k = 12 * i + wc i) ∨ (a = 146 ∧ k = 12 * i + wc i) ∨ (a = 143 ∧ k = i)) I (zI (zI (zI (zI (zI (zI (zI (zI I (eid i + 3) (wc i) p1) (eid i + 4) (wc i) p2) (eid i + 5) (wc i) p3) (eid i) 7 (nI (wc i + 1))) 144 (12 * i + wc i) p1) 145 (12 * i + wc i) p2) 146 (12 * i + wc i) p3) 143 i (nI (wc i + 1))) := by
    refine Fz.z (Fz.z (Fz.z (Fz.z (Fz.z (Fz.z (Fz.z (Fz.z Fz.rfl' ?_) ?_) ?_) ?_) ?_) ?_) ?_) ?_ <;> omega
  obtain ⟨_, g, g2, cl, _⟩ := b1.2.1 i hi
  have hm : ∀ a, 152 ≤ a → (a = eid i ∨ a = eid i + 3 ∨ a = eid i + 4 ∨ a = eid i + 5) → Hm K a (eid i) := fun a _ z => by
    rcases z with z | z | z | z <;> subst z
    · exact hm_e b1 hi (show 0 ≤ 5 by omega)
    · exact hm_e b1 hi (show 3 ≤ 5 by omega)
    · exact hm_e b1 hi (show 4 ≤ 5 by omega)
    · exact hm_e b1 hi (show 5 ≤ 5 by omega)
  obtain ⟨r1, r2, r3, r4, r5, r6, r7⟩ := h'.sr f (fun a j z => by unfold rsS byS twS cdS seS clS at z; omega) (h'.vD.2.ft f (fun x1 x2 x3 y1 y2 y3 w1 w2 w3 a j z => by have := z_nat w3 b3 (by omega) (by have := b1.1; omega); omega))
  refine ⟨np, nb, pid, pts, bid, hA.fz (KE.rf hC0 hM0) f ⟨fun a j z => by unfold wdS at z; omega, fun a j z z1 z2 => ⟨eid i, hm a z1 (by omega), ?_⟩⟩ (by omega), hS.fz (Nat.le_refl _) (fun _ _ => rfl) (fun _ => rfl) (fun _ _ _ _ _ => rfl) f (fun a j z => by unfold smS at z; omega) (fun a j z z1 z2 => ⟨eid i, hm a z1 (by omega), by rw [cl]; omega⟩), ⟨ne, eid, lc, hp, fun s => if s = i then wc i + 1 else wc s, fun s w => if s = i ∧ w = wc i then j else wi s w, hz, b1, by rw [f 0 18 (by omega)]; exact b2, by rw [f 59 114 (by omega)]; exact b3, fun s hs => ?_, fun s hs => ?_⟩, hT.fz hA.bk f (fun a j z => by unfold trM2 at z; omega) (fun a j z z1 z2 => ⟨eid i, hm a z1 (by omega), by rw [cl]; omega⟩), hM.fz (fun _ => rfl) f (fun a j z => by unfold mkS at z; omega), r1, r2, r3, r4, r5, hG.fz hA.pk f (fun j => by omega) (fun a j z z1 z2 => ⟨eid i, hm a z1 (by omega), by rw [cl]; omega⟩), r6, r7⟩
  · rw [cl]; omega
  · obtain ⟨q1, q2, q3, q4⟩ := b4 s hs
    have gs := (b1.2.1 s hs).2.1
    have d3 : ∀ x y, x ≤ 5 → y ≤ 5 → x ≠ y → eid s + x ≠ eid i + y := fun x y hx hy n z => n (b1.dis hs hi hx hy z).2
    have a3 := d3 0 3 (by omega) (by omega) (by omega)
    have a4 := d3 0 4 (by omega) (by omega) (by omega)
    have a5 := d3 0 5 (by omega) (by omega) (by omega)
    refine ⟨q1, by rw [f (eid s) 3 (by omega)]; exact q2, by rw [f 140 s (by omega)]; exact q3, fun k hk => ?_⟩
    rw [f 141 _ (by omega)]
    exact q4 k hk
  · obtain ⟨q1, q2, q3, q4, q5, q6⟩ := b5 s hs
    have gs := (b1.2.1 s hs).2.1
    have d3 : ∀ x y, x ≤ 5 → y ≤ 5 → x ≠ y → eid s + x ≠ eid i + y := fun x y hx hy n z => n (b1.dis hs hi hx hy z).2
    have a3 := d3 0 3 (by omega) (by omega) (by omega)
    have a4 := d3 0 4 (by omega) (by omega) (by omega)
    have a5 := d3 0 5 (by omega) (by omega) (by omega)
    have c0 := d3 2 0 (by omega) (by omega) (by omega)
    have c3 := d3 2 3 (by omega) (by omega) (by omega)
    have c4 := d3 2 4 (by omega) (by omega) (by omega)
    have c5 := d3 2 5 (by omega) (by omega) (by omega)
    have hz2 : ∀ k, k < lc s → hz s k < 11 ∧ (zI (zI (zI (zI (zI (zI (zI (zI I (eid i + 3) (wc i) p1) (eid i + 4) (wc i) p2) (eid i + 5) (wc i) p3) (eid i) 7 (nI (wc i + 1))) 144 (12 * i + wc i) p1) 145 (12 * i + wc i) p2) 146 (12 * i + wc i) p3) 143 i (nI (wc i + 1))) (eid s + 2) k = nI (hz s k) ∧ (zI (zI (zI (zI (zI (zI (zI (zI I (eid i + 3) (wc i) p1) (eid i + 4) (wc i) p2) (eid i + 5) (wc i) p3) (eid i) 7 (nI (wc i + 1))) 144 (12 * i + wc i) p1) 145 (12 * i + wc i) p2) 146 (12 * i + wc i) p3) 143 i (nI (wc i + 1))) 142 (8 * s + k) = nI (hz s k) := fun k hk => by
      rw [f (eid s + 2) k (by omega), f 142 _ (by omega)]
      exact q6 k hk
    have x144 : ∀ z, zI (zI (zI (zI (zI (zI (zI (zI I (eid i + 3) (wc i) p1) (eid i + 4) (wc i) p2) (eid i + 5) (wc i) p3) (eid i) 7 (nI (wc i + 1))) 144 (12 * i + wc i) p1) 145 (12 * i + wc i) p2) 146 (12 * i + wc i) p3) 143 i (nI (wc i + 1)) 144 z = if z = 12 * i + wc i then p1 else I 144 z := fun z => by
      simp [zI_if, show ¬ 144 = eid i by omega, show ¬ 144 = eid i + 3 by omega, show ¬ 144 = eid i + 4 by omega, show ¬ 144 = eid i + 5 by omega]
    have x145 : ∀ z, zI (zI (zI (zI (zI (zI (zI (zI I (eid i + 3) (wc i) p1) (eid i + 4) (wc i) p2) (eid i + 5) (wc i) p3) (eid i) 7 (nI (wc i + 1))) 144 (12 * i + wc i) p1) 145 (12 * i + wc i) p2) 146 (12 * i + wc i) p3) 143 i (nI (wc i + 1)) 145 z = if z = 12 * i + wc i then p2 else I 145 z := fun z => by
      simp [zI_if, show ¬ 145 = eid i by omega, show ¬ 145 = eid i + 3 by omega, show ¬ 145 = eid i + 4 by omega, show ¬ 145 = eid i + 5 by omega]
    have x146 : ∀ z, zI (zI (zI (zI (zI (zI (zI (zI I (eid i + 3) (wc i) p1) (eid i + 4) (wc i) p2) (eid i + 5) (wc i) p3) (eid i) 7 (nI (wc i + 1))) 144 (12 * i + wc i) p1) 145 (12 * i + wc i) p2) 146 (12 * i + wc i) p3) 143 i (nI (wc i + 1)) 146 z = if z = 12 * i + wc i then p3 else I 146 z := fun z => by
      simp [zI_if, show ¬ 146 = eid i by omega, show ¬ 146 = eid i + 3 by omega, show ¬ 146 = eid i + 4 by omega, show ¬ 146 = eid i + 5 by omega]
    simp only [x144, x145, x146]
    by_cases y : s = i
    · subst y
      simp only [if_true, true_and]
      refine ⟨by omega, ?_, zI_s, ?_, fun w hw => ?_, hz2⟩
      · rw [zI_r (by omega), zI_r (by omega), zI_r (by omega), zI_r (by omega), zI_s]
      · rw [f (eid s) 0 (by omega), f 139 s (by omega)]; exact q4
      · have u3 : zI (zI (zI (zI (zI (zI (zI (zI I (eid s + 3) (wc s) p1) (eid s + 4) (wc s) p2) (eid s + 5) (wc s) p3) (eid s) 7 (nI (wc s + 1))) 144 (12 * s + wc s) p1) 145 (12 * s + wc s) p2) 146 (12 * s + wc s) p3) 143 s (nI (wc s + 1)) (eid s + 3) w = if w = wc s then p1 else I (eid s + 3) w := by
          rw [zI_r (by omega), zI_r (by omega), zI_r (by omega), zI_r (by omega), zI_r (by omega), zI_r (by omega), zI_r (by omega), zI_if]; simp only [true_and]
        have u4 : zI (zI (zI (zI (zI (zI (zI (zI I (eid s + 3) (wc s) p1) (eid s + 4) (wc s) p2) (eid s + 5) (wc s) p3) (eid s) 7 (nI (wc s + 1))) 144 (12 * s + wc s) p1) 145 (12 * s + wc s) p2) 146 (12 * s + wc s) p3) 143 s (nI (wc s + 1)) (eid s + 4) w = if w = wc s then p2 else I (eid s + 4) w := by
          rw [zI_r (by omega), zI_r (by omega), zI_r (by omega), zI_r (by omega), zI_r (by omega), zI_r (by omega), zI_if, zI_r (show eid s + 4 ≠ eid s + 3 by omega)]; simp only [true_and]
        have u5 : zI (zI (zI (zI (zI (zI (zI (zI I (eid s + 3) (wc s) p1) (eid s + 4) (wc s) p2) (eid s + 5) (wc s) p3) (eid s) 7 (nI (wc s + 1))) 144 (12 * s + wc s) p1) 145 (12 * s + wc s) p2) 146 (12 * s + wc s) p3) 143 s (nI (wc s + 1)) (eid s + 5) w = if w = wc s then p3 else I (eid s + 5) w := by
          rw [zI_r (by omega), zI_r (by omega), zI_r (by omega), zI_r (by omega), zI_r (by omega), zI_if, zI_r (show eid s + 5 ≠ eid s + 4 by omega), zI_r (show eid s + 5 ≠ eid s + 3 by omega)]; simp only [true_and]
        rw [u3, u4, u5]
        by_cases x : w = wc s
        · simp only [if_pos x, if_pos (show 12 * s + w = 12 * s + wc s by omega)]
          exact ⟨hj, e2, e2, trivial, trivial⟩
        · simp only [if_neg x, if_neg (show ¬ 12 * s + w = 12 * s + wc s by omega)]
          exact q5 w (by omega)
    · have d4 : ∀ x y, x ≤ 5 → y ≤ 5 → eid s + x ≠ eid i + y := fun x y' hx hy z => y (b1.dis hs hi hx hy z).1
      have d0 := d4 0 0 (by omega) (by omega)
      simp only [if_neg y, y, false_and, if_false]
      refine ⟨q1, by rw [f (eid s) 7 (by omega)]; exact q2, by rw [f 143 s (by omega)]; exact q3, by rw [f (eid s) 0 (by omega), f 139 s (by omega)]; exact q4, fun w hw => ?_, hz2⟩
      have k0 := d4 3 0 (by omega) (by omega)
      have k3 := d4 3 3 (by omega) (by omega)
      have k4 := d4 3 4 (by omega) (by omega)
      have k5 := d4 3 5 (by omega) (by omega)
      have l0 := d4 4 0 (by omega) (by omega)
      have l3 := d4 4 3 (by omega) (by omega)
      have l4 := d4 4 4 (by omega) (by omega)
      have l5 := d4 4 5 (by omega) (by omega)
      have m0 := d4 5 0 (by omega) (by omega)
      have m3 := d4 5 3 (by omega) (by omega)
      have m4 := d4 5 4 (by omega) (by omega)
      have m5 := d4 5 5 (by omega) (by omega)
      rw [f (eid s + 3) w (by omega), f (eid s + 4) w (by omega), f (eid s + 5) w (by omega), if_neg (by omega), if_neg (by omega), if_neg (by omega)]
      exact q5 w hw
theorem Ext.sh {L L' : z_L} {b n : Nat} (h : Ext K K' I I' L L' b n) : K.1 = b ∧ K'.1 = b + n ∧ (∀ a, a < K.1 → K'.2.1 a = K.2.1 a) ∧ (∀ a, a < K.1 → K'.2.2 a = K.2.2 a) ∧ ∀ a, a < K.1 → I' a = I a := by
  obtain ⟨h1, h2, h3, h4, h5, h6⟩ := h
  subst h1
  exact ⟨rfl, h2, h3, h4, h5⟩
theorem rw_seam (h : Inv c K I) : OpU n0 xX12_seam xX13_seam [.int p0, .int p1, .int p2, .int p3, .int p4, .int p5, .int p6, .int p7] K I L (Iv (c + 1)) := by
  have h' := h
  obtain ⟨hC0, hM0⟩ := h.lay
  obtain ⟨np, nb, pid, pts, bid, hA, ⟨ns, sid, s1, s2, sa, sb, sc, se, nc, b1, b2, b3, b4⟩, hE, hT, hM, _, _, _, _, _, hG, _, _⟩ := h
  have h152 := hA.lay.2.2
  have hA' := hA
  obtain ⟨nr, na, t, rid, rp, rk, ln, cx, cy, m, par, X, Y, A, hW, hB, ht⟩ := hA'
  refine (op_seam (d := 0) (P := Iv (c + 1)) hC0 hM0 h152 hA.pk hW.2.2.2.2.1 b2 b1.1 h'.hr (fun h20 i j l i2 j2 l2 hi hj hl hi2 hj2 hl2 _ _ _ K1 I1 L1 hx hb => ?_)).U (by omega) (by omega) (by omega) (by omega)
  obtain ⟨_, x1, x2, x3, x4⟩ := hx.sh
  obtain ⟨y1, y2, y3, y4, y5, y6, y7, y8, y9, y10, y11, y12⟩ := hb
  have hC1 : CLay (zR (zR K1 K.1 5 (some (pid i2))) 21 ns (some K.1)) := CLay.zR (hC0.ext (K' := zR K1 K.1 5 (some (pid i2))) (by show K.1 ≤ K1.1; omega) (fun a ha => x2 a (by omega)) (fun a ha => by rw [zR_ne (by omega)]; exact x3 a (by omega))) (by decide)
  have hM1 : MLay (zR (zR K1 K.1 5 (some (pid i2))) 21 ns (some K.1)) := MLay.zR (hM0.ext (K' := zR K1 K.1 5 (some (pid i2))) (by show K.1 ≤ K1.1; omega) (fun a ha => x2 a (by omega)) (by rw [zR_ne (by omega)]; exact x3 59 (by omega))) (by omega)
  have kr : ∀ a j, a < K.1 → a ≠ 21 → (zR (zR K1 K.1 5 (some (pid i2))) 21 ns (some K.1)).2.2 a j = K.2.2 a j := fun a j z1 z2 => by
    rw [zR_ne z2, zR_ne (by omega), x3 a z1]
  have f0 : Fz (fun a j => K.1 ≤ a) I I1 := fun a j z => by rw [x4 a (by omega)]
  have f : Fz (fun a j => K.1 ≤ a ∨ (a = 0 ∧ j = 13) ∨ (a = 59 ∧ j = 62) ∨ (98 ≤ a ∧ a ≤ 105 ∧ j = ns)) I (smI (zI (zI (zI I1 K.1 6 (nI j2)) K.1 7 (nI l2)) 0 13 (nI (ns + 1))) ns (nI i) (nI j) (nI l) (nI i2) (nI j2) (nI l2) p6 p7) := by
    unfold smI
    refine Fz.z (Fz.z (Fz.z (Fz.z (Fz.z (Fz.z (Fz.z (Fz.z (Fz.z (Fz.z (Fz.z (Fz.z (f0.mono (fun a j z => Or.inl z)) ?_) ?_) ?_) ?_) ?_) ?_) ?_) ?_) ?_) ?_) ?_) ?_ <;> omega
  have o : ∀ {P : Nat → Nat → Nat → Prop} (a j : Nat), (K.1 ≤ a ∨ (a = 0 ∧ j = 13) ∨ (a = 59 ∧ j = 62) ∨ (98 ≤ a ∧ a ≤ 105 ∧ j = ns)) → 152 ≤ a → a < K.1 → ∃ o, Hm K a o ∧ P a j o := fun a j y z _ => by omega
  obtain ⟨v1, v2, v3, ⟨u1, u2, u3⟩, ⟨w1, w2, w3⟩, z1, z2, z3, z4⟩ := h'.vD.2
  have w4 := z_nat b2.2 w2 (by omega) (by omega)
  subst w4
  have e62 : smI (zI (zI (zI I1 K.1 6 (nI j2)) K.1 7 (nI l2)) 0 13 (nI (ns + 1))) ns (nI i) (nI j) (nI l) (nI i2) (nI j2) (nI l2) p6 p7 59 62 = nI (ns + 1) := by unfold smI; exact zI_s
  obtain ⟨r1, r2, r3, r4, r5, r6, r7⟩ := h'.sr f (fun a j z => by unfold rsS byS twS cdS seS clS at z; omega) ⟨v1, ns + 1, v3, ⟨u1, by omega, u3⟩, ⟨by rw [f 59 9 (by omega)]; exact w1, e62, by rw [f 59 114 (by omega)]; exact w3⟩, fun j hj => by rw [f 69 j (by omega)]; exact z1 j hj, fun j hj => by rw [f 70 j (by omega), f 71 j (by omega), f 72 j (by omega), f 73 j (by omega), f 74 j (by omega)]; exact z2 j hj, fun j hj => by rw [f 106 j (by omega), f 107 j (by omega)]; exact z3 j (by omega), fun j hj => by rw [f 140 j (by omega), f 143 j (by omega)]; exact z4 j hj⟩
  have k1 : K.1 ≤ K1.1 := by omega
  refine ⟨np, nb, pid, pts, bid, hA.fz ⟨hC1, hM1, k1, x2, fun p _ => kr 4 p (by omega) (by omega), fun p _ => kr 3 p (by omega) (by omega), fun p => kr 2 p (by omega) (by omega), fun a j z z1 _ => kr a j z1 (by omega)⟩ f ⟨fun a j z => by unfold wdS at z; omega, o⟩ (by omega), ⟨ns + 1, fun s => if s = ns then K.1 else sid s, fun s => if s = ns then i else s1 s, fun s => if s = ns then i2 else s2 s, fun s => if s = ns then j else sa s, fun s => if s = ns then l else sb s, fun s => if s = ns then j2 else sc s, fun s => if s = ns then l2 else se s, fun s => if s = ns then 0 else nc s, ⟨by omega, fun s hs => ?_, fun p q hp hq e => ?_⟩, ⟨?_, ?_⟩, fun s hs => ?_, fun s hs => ?_⟩, hE.fz k1 x2 (fun j => kr 51 j (by omega) (by omega)) (fun a j z z1 _ => kr a j z1 (by omega)) f (fun a j z => by unfold edS at z; omega) o, hT.fz hA.bk f (fun a j z => by unfold trM2 at z; omega) o, hM.fz (fun j => kr 27 j (by omega) (by omega)) f (fun a j z => by unfold mkS at z; omega), r1, r2, r3, r4, r5, hG.fz hA.pk f (fun j => by omega) o, r6, r7⟩
  · by_cases y : s = ns
    · subst y
      simp only [if_true]
      exact ⟨zR_e, by omega, by show K.1 + 2 < K1.1; omega, y1, y2, y3, by rw [zR_ne (by omega), zR_o (by omega)]; exact y4, by rw [zR_ne (by omega), zR_o (by omega)]; exact y5⟩
    · simp only [if_neg y]
      obtain ⟨g0, g1, g2, g3, g4, g5, g6, g7⟩ := b1.2.1 s (by omega)
      exact ⟨by rw [zR_o y, zR_ne (by omega), x3 21 (by omega)]; exact g0, g1, by show _ < K1.1; omega, by show (K1.2.1 _).1 = 8; rw [x2 _ (by omega)]; exact g3, by show K1.2.1 _ = _; rw [x2 _ (by omega)]; exact g4, by show K1.2.1 _ = _; rw [x2 _ (by omega)]; exact g5, by rw [kr _ _ (by omega) (by omega)]; exact g6, by rw [kr _ _ (by omega) (by omega)]; exact g7⟩
  · by_cases y : p = ns <;> by_cases z : q = ns
    · omega
    · have := (b1.2.1 q (by omega)).2.2.1
      simp only [if_pos y, if_neg z] at e
      omega
    · have := (b1.2.1 p (by omega)).2.2.1
      simp only [if_pos z, if_neg y] at e
      omega
    · simp only [if_neg y, if_neg z] at e
      exact b1.2.2 p q (by omega) (by omega) e
  · unfold smI
    rw [zI_r (by omega), zI_r (by omega), zI_r (by omega), zI_r (by omega), zI_r (by omega), zI_r (by omega), zI_r (by omega), zI_r (by omega), zI_r (by omega), zI_s]
  · unfold smI
    exact zI_s
  · by_cases y : s = ns
    · subst y
      simp only [if_true]
      have n : ∀ x, x < 152 → ¬ x = K.1 := fun x z => by omega
      have n' : ∀ x, x < 152 → ¬ K.1 = x := fun x z => by omega
      refine ⟨hi, hi2, hj, hl, hj2, hl2, by rw [zR_ne (by omega), zR_o (by omega)]; exact y6, by rw [zR_ne (by omega)]; exact zR_e, ?_, ?_, ?_, ?_, ?_, ?_, ?_, ?_, ?_, ?_, ?_, ?_⟩ <;> simp [smI, zI_if, n, n', y7, y8, y9, y10]
    · simp only [if_neg y]
      have gs := (b1.2.1 s (by omega)).2.1
      have gs2 := (b1.2.1 s (by omega)).2.2.1
      rw [kr _ 0 (by omega) (by omega), kr _ 5 (by omega) (by omega), f (sid s) 1 (by omega), f (sid s) 2 (by omega), f (sid s) 6 (by omega), f (sid s) 7 (by omega), f (sid s) 3 (by omega), f (sid s) 4 (by omega), f 98 s (by omega), f 99 s (by omega), f 100 s (by omega), f 101 s (by omega), f 102 s (by omega), f 103 s (by omega), f 104 s (by omega), f 105 s (by omega)]
      exact b3 s (by omega)
  · by_cases y : s = ns
    · subst y
      simp only [if_true]
      have n : ∀ x, x < 152 → ¬ x = K.1 := fun x z => by omega
      have n' : ∀ x, x < 152 → ¬ K.1 = x := fun x z => by omega
      refine ⟨by omega, ?_, ?_, ?_, fun k hk => by omega⟩
      · simp [smI, zI_if, n, n', y12]; rfl
      · rw [f 107 _ (by omega)]; exact (z3 _ (by omega)).2
      · rw [f 106 _ (by omega), (z3 _ (by omega)).1]; simp [smI, zI_if, n, n', y11]
    · simp only [if_neg y]
      have gs := (b1.2.1 s (by omega)).2.1
      have gs2 := (b1.2.1 s (by omega)).2.2.1
      obtain ⟨g1, g2, g3, g4, g5⟩ := b4 s (by omega)
      refine ⟨g1, by rw [f (sid s) 11 (by omega)]; exact g2, by rw [f 107 s (by omega)]; exact g3, by rw [f (sid s) 8 (by omega), f 106 s (by omega)]; exact g4, fun k hk => ?_⟩
      rw [f (sid s + 1) k (by omega), f (sid s + 2) k (by omega), f 108 _ (by omega), f 109 _ (by omega)]
      exact g5 k hk
end RW3
