/-! rows of edition, holds, trial -/
section RW4
variable {n0 c : Nat} {K K' : z_K} {I I' : z_I} {L : z_L} {S R : Nat → Nat → Prop} {np nb ns ne : Nat} {sid eid pid bid pts : Nat → Nat} {p0 p1 p2 p3 p4 p5 p6 p7 : Int32}
theorem rw_edition (h : Inv c K I) : OpU n0 xX12_edition xX13_edition [] K I L (Iv (c + 1)) := by
  have h' := h
  obtain ⟨hC0, hM0⟩ := h.lay
  obtain ⟨np, nb, pid, pts, bid, hA, hS, ⟨ne, eid, lc, hp, wc, wi, hz, b1, b2, b3, b4, b5⟩, hT, hM, _, _, _, _, _, hG, _, _⟩ := h
  have h152 := hA.lay.2.2
  have hA' := hA
  obtain ⟨nr, na, t, rid, rp, rk, ln, cx, cy, m, par, X, Y, A, ⟨g1, g2, g3, g4, g5, g6, g7, g8, g9, g10, g11, g12, g13, g14, g15, g16, g17⟩, hB, ht⟩ := hA'
  refine (op_edition (d := 0) (P := Iv (c + 1)) hC0 hM0 h152 g13 b2 b3 b1.1 h'.hr (fun h12 K1 I1 L1 hx hb => ?_)).U (by omega) (by omega) (by omega) (by omega)
  obtain ⟨_, x1, x2, x3, x4⟩ := hx.sh
  obtain ⟨y1, y2, y3, y4, y5, y6, y7, y8, y9, y10, y11, y12, y13, y14⟩ := hb
  have hC1 : CLay (zR K1 51 ne (some K.1)) := CLay.zR (hC0.ext (by omega) (fun a ha => x2 a (by omega)) (fun a ha => x3 a (by omega))) (by decide)
  have hM1 : MLay (zR K1 51 ne (some K.1)) := MLay.zR (hM0.ext (by omega) (fun a ha => x2 a (by omega)) (x3 59 (by omega))) (by omega)
  have kr : ∀ a j, a < K.1 → a ≠ 51 → (zR K1 51 ne (some K.1)).2.2 a j = K.2.2 a j := fun a j z1 z2 => by
    rw [zR_ne z2, x3 a z1]
  have f0 : Fz (fun a j => K.1 ≤ a) I I1 := fun a j z => by rw [x4 a (by omega)]
  generalize hJ : zI (zI (zI I1 0 18 (nI (ne + 1))) 139 ne (I 59 0)) 59 114 (nI (ne + 1)) = J
  have f : Fz (fun a j => K.1 ≤ a ∨ (a = 0 ∧ j = 18) ∨ (a = 59 ∧ j = 114) ∨ (a = 139 ∧ j = ne)) I J := by
    rw [← hJ]
    refine Fz.z (Fz.z (Fz.z (f0.mono (fun a j z => Or.inl z)) ?_) ?_) ?_ <;> omega
  have jn : ∀ a j, K.1 ≤ a → J a j = I1 a j := fun a j z => by
    rw [← hJ, zI_r (by omega), zI_r (by omega), zI_r (by omega)]
  have j18 : J 0 18 = nI (ne + 1) := by rw [← hJ, zI_r (by omega), zI_r (by omega), zI_s]
  have j114 : J 59 114 = nI (ne + 1) := by rw [← hJ, zI_s]
  have j139 : J 139 ne = I 59 0 := by rw [← hJ, zI_r (by omega), zI_s]
  have o : ∀ {P : Nat → Nat → Nat → Prop} (a j : Nat), (K.1 ≤ a ∨ (a = 0 ∧ j = 18) ∨ (a = 59 ∧ j = 114) ∨ (a = 139 ∧ j = ne)) → 152 ≤ a → a < K.1 → ∃ o, Hm K a o ∧ P a j o := fun a j y z _ => by omega
  obtain ⟨v1, v2, v3, ⟨u1, u2, u3⟩, ⟨w1, w2, w3⟩, z1, z2, z3, z4⟩ := h'.vD.2
  have w4 := z_nat b3 w3 (by omega) (by omega)
  subst w4
  obtain ⟨r1, r2, r3, r4, r5, r6, r7⟩ := h'.sr f (fun a j z => by unfold rsS byS twS cdS seS clS at z; omega) ⟨v1, v2, ne + 1, ⟨u1, u2, by omega⟩, ⟨by rw [f 59 9 (by omega)]; exact w1, by rw [f 59 62 (by omega)]; exact w2, j114⟩, fun j hj => by rw [f 69 j (by omega)]; exact z1 j hj, fun j hj => by rw [f 70 j (by omega), f 71 j (by omega), f 72 j (by omega), f 73 j (by omega), f 74 j (by omega)]; exact z2 j hj, fun j hj => by rw [f 106 j (by omega), f 107 j (by omega)]; exact z3 j hj, fun j hj => by rw [f 140 j (by omega), f 143 j (by omega)]; exact z4 j (by omega)⟩
  have k1 : K.1 ≤ K1.1 := by omega
  refine ⟨np, nb, pid, pts, bid, hA.fz ⟨hC1, hM1, k1, x2, fun p _ => kr 4 p (by omega) (by omega), fun p _ => kr 3 p (by omega) (by omega), fun p => kr 2 p (by omega) (by omega), fun a j z z1 _ => kr a j z1 (by omega)⟩ f ⟨fun a j z => by unfold wdS at z; omega, o⟩ (by omega), hS.fz k1 x2 (fun j => kr 21 j (by omega) (by omega)) (fun a j z z1 _ => kr a j z1 (by omega)) f (fun a j z => by unfold smS at z; omega) o, ⟨ne + 1, fun s => if s = ne then K.1 else eid s, fun s => if s = ne then 0 else lc s, hp, fun s => if s = ne then 0 else wc s, wi, hz, ⟨by omega, fun s hs => ?_, fun p q hp hq e => ?_⟩, j18, j114, fun s hs => ?_, fun s hs => ?_⟩, hT.fz hA.bk f (fun a j z => by unfold trM2 at z; omega) o, hM.fz (fun j => kr 27 j (by omega) (by omega)) f (fun a j z => by unfold mkS at z; omega), r1, r2, r3, r4, r5, hG.fz hA.pk f (fun j => by omega) o, r6, r7⟩
  · by_cases y : s = ne
    · subst y
      simp only [if_true]
      have kb : ∀ j, (zR K1 51 s (some K.1)).2.2 K.1 j = K1.2.2 K.1 j := fun j => by rw [zR_ne (by omega)]
      exact ⟨zR_e, by omega, by show K.1 + 5 < K1.1; omega, y1, y2, y3, y4, y5, y6, by rw [kb]; exact y7, by rw [kb]; exact y8, by rw [kb]; exact y9, by rw [kb]; exact y10, by rw [kb]; exact y11⟩
    · simp only [if_neg y]
      obtain ⟨q0, q1, q2, q3, q4, q5, q6, q7, q8, q9, q10, q11, q12, q13⟩ := b1.2.1 s (by omega)
      have ks : ∀ j, (zR K1 51 ne (some K.1)).2.2 (eid s) j = K.2.2 (eid s) j := fun j => kr _ _ (by omega) (by omega)
      have kt : ∀ x, x ≤ 5 → K1.2.1 (eid s + x) = K.2.1 (eid s + x) := fun x hx => x2 _ (by omega)
      exact ⟨by rw [zR_o y, x3 51 (by omega)]; exact q0, q1, by show _ < K1.1; omega, by show (K1.2.1 _).1 = 3; rw [x2 _ (by omega)]; exact q3, (kt 1 (by omega)).trans q4, (kt 2 (by omega)).trans q5, (kt 3 (by omega)).trans q6, (kt 4 (by omega)).trans q7, (kt 5 (by omega)).trans q8, by rw [ks]; exact q9, by rw [ks]; exact q10, by rw [ks]; exact q11, by rw [ks]; exact q12, by rw [ks]; exact q13⟩
  · by_cases y : p = ne <;> by_cases z : q = ne
    · omega
    · have := (b1.2.1 q (by omega)).2.2.1
      simp only [if_pos y, if_neg z] at e
      omega
    · have := (b1.2.1 p (by omega)).2.2.1
      simp only [if_pos z, if_neg y] at e
      omega
    · simp only [if_neg y, if_neg z] at e
      exact b1.2.2 p q (by omega) (by omega) e
  · by_cases y : s = ne
    · subst y
      simp only [if_true]
      exact ⟨by omega, by rw [jn _ _ (by omega)]; exact y13, by rw [f 140 _ (by omega)]; exact (z4 _ (by omega)).1, fun i hi => by omega⟩
    · simp only [if_neg y]
      obtain ⟨q0, q1, q2, q3, _⟩ := b1.2.1 s (by omega)
      obtain ⟨c1, c2, c3, c4⟩ := b4 s (by omega)
      exact ⟨c1, by rw [f (eid s) 3 (by omega)]; exact c2, by rw [f 140 s (by omega)]; exact c3, fun i hi => by rw [kr _ _ (by omega) (by omega), f 141 _ (by omega)]; exact c4 i hi⟩
  · by_cases y : s = ne
    · subst y
      simp only [if_true]
      exact ⟨by omega, by rw [jn _ _ (by omega)]; exact y14, by rw [f 143 _ (by omega)]; exact (z4 _ (by omega)).2, by rw [jn _ _ (by omega), j139]; exact y12, fun w hw => by omega, fun i hi => by omega⟩
    · simp only [if_neg y]
      obtain ⟨q0, q1, q2, q3, _⟩ := b1.2.1 s (by omega)
      obtain ⟨c1, c2, c3, c4, c5, c6⟩ := b5 s (by omega)
      refine ⟨c1, by rw [f (eid s) 7 (by omega)]; exact c2, by rw [f 143 s (by omega)]; exact c3, by rw [f (eid s) 0 (by omega), f 139 s (by omega)]; exact c4, fun w hw => ?_, fun i hi => ?_⟩
      · rw [f (eid s + 3) w (by omega), f (eid s + 4) w (by omega), f (eid s + 5) w (by omega), f 144 _ (by omega), f 145 _ (by omega), f 146 _ (by omega)]
        exact c5 w hw
      · rw [f (eid s + 2) i (by omega), f 142 _ (by omega)]
        exact c6 i hi
theorem KD.zr {a j : Nat} {v : Option Nat} (h : KD K K') : KD (zR K a j v) (zR K' a j v) := by
  refine ⟨h.1, h.2.1, fun x k n => ?_⟩
  by_cases e : x = a
  · subst e
    by_cases e2 : k = j
    · subst e2; rw [zR_e, zR_e]
    · rw [zR_o e2, zR_o e2]; exact h.2.2 x k n
  · rw [zR_ne e, zR_ne e]; exact h.2.2 x k n
theorem rw_holds (h : Inv c K I) : OpU n0 xX12_holds xX13_holds [.int p0, .int p1] K I L (Iv (c + 1)) := by
  have h' := h
  obtain ⟨hC0, hM0⟩ := h.lay
  obtain ⟨np, nb, pid, pts, bid, hA, hS, ⟨ne, eid, lc, hp, wc, wi, hz, b1, b2, b3, b4, b5⟩, hT, hM, _, _, _, _, _, hG, _, _⟩ := h
  have h152 := hA.lay.2.2
  have hA' := hA
  obtain ⟨nr, na, t, rid, rp, rk, ln, cx, cy, m, par, X, Y, A, hW, hB, ht⟩ := hA'
  refine (op_holds (d := 0) (P := Iv (c + 1)) hW b1 b2 b3 (fun e he => (b5 e he).2.2.2.1) (fun e he => ⟨(b4 e he).1, (b4 e he).2.1, (b4 e he).2.2.1⟩) (fun z => bnd_neg.mp z h'.vD.1) (fun e p K1 I1 v w he hpn hl hk hf => ?_) (fun e p s K1 I' L' he hl hpn hs e1 e2 hk _ hf => ?_) h'.t1).U (by omega) (by omega) (by omega) (by omega)
  · have hW1 := hW.fT hk (hf.mono (fun _ _ z => gX_T (gX_s z)))
    have b1' := b1.kd hk
    have he' : e < ne := by omega
    obtain ⟨_, q1, q2, q3, q4, _⟩ := b1'.2.1 e he'
    have f : Fz (fun a j => a = eid e + 2 ∨ a = eid e) I1 (zI (zI I1 (eid e + 2) (lc e) v) (eid e) 3 w) := (Fz.rfl'.z (Or.inl rfl)).z (Or.inr rfl)
    have kr : ∀ a j, a ≠ eid e + 1 → (zR K1 (eid e + 1) (lc e) (some (pid p))).2.2 a j = K1.2.2 a j := fun a j z => by rw [zR_ne z]
    have okw : okW K1 (fun a j => a = eid e + 2 ∨ a = eid e) := ⟨fun a j z => by unfold wdS at z; omega, fun a j z z1 z2 => ⟨eid e, by
      rcases z with z | z <;> subst z
      · exact hm_e b1' he' (show 2 ≤ 5 by omega)
      · exact hm_e b1' he' (show 0 ≤ 5 by omega), by rw [q3]; omega⟩⟩
    refine hW1.fz ⟨hW1.1.ext (Nat.le_refl _) (fun _ _ => rfl) (fun a ha => zR_ne (by omega)), hW1.2.1.zR (by omega), Nat.le_refl _, fun _ _ => rfl, fun x _ => kr 4 x (by omega), fun x _ => kr 3 x (by omega), fun x => kr 2 x (by omega), fun a j z z1 z2 => kr a j (fun y => z2 (by rw [y, q4]))⟩ f okw.1 (WdO_of hW1 ht.2 okw)
  · have he' : e < ne := by omega
    obtain ⟨_, q1, q2, q3, q4, _⟩ := b1.2.1 e he'
    have hk2 : KD (zR K (eid e + 1) (lc e) (some (pid p))) (zR K1 (eid e + 1) (lc e) (some (pid p))) := hk.zr
    refine Inv.fX (K := zR K (eid e + 1) (lc e) (some (pid p))) ?_ hk2 (hf.mono (fun _ _ z => gX_s z))
    clear hf hk2 hk I'
    generalize hJ : zI (zI (zI (zI (zI I (eid e + 2) (lc e) (nI s)) (eid e) 3 (nI (lc e + 1))) 141 (8 * e + lc e) (nI p)) 142 (8 * e + lc e) (nI s)) 140 e (nI (lc e + 1)) = J
    have f : Fz (fun a j => (a = eid e + 2 ∧ j = lc e) ∨ (a = eid e ∧ j = 3) ∨ (a = 141 ∧ j = 8 * e + lc e) ∨ (a = 142 ∧ j = 8 * e + lc e) ∨ (a = 140 ∧ j = e)) I J := by
      rw [← hJ]
      refine Fz.z (Fz.z (Fz.z (Fz.z (Fz.z Fz.rfl' ?_) ?_) ?_) ?_) ?_ <;> omega
    have j2 : ∀ k, J (eid e + 2) k = if k = lc e then nI s else I (eid e + 2) k := fun k => by
      rw [← hJ, zI_r (by omega), zI_r (by omega), zI_r (by omega), zI_r (by omega), zI_if]; simp only [true_and]
    have j3 : J (eid e) 3 = nI (lc e + 1) := by rw [← hJ, zI_r (by omega), zI_r (by omega), zI_r (by omega), zI_s]
    have j141 : ∀ k, J 141 k = if k = 8 * e + lc e then nI p else I 141 k := fun k => by
      rw [← hJ, zI_r (by omega), zI_r (by omega), zI_if, zI_r (by omega), zI_r (by omega)]; simp only [true_and]
    have j142 : ∀ k, J 142 k = if k = 8 * e + lc e then nI s else I 142 k := fun k => by
      rw [← hJ, zI_r (by omega), zI_if, zI_r (by omega), zI_r (by omega), zI_r (by omega)]; simp only [true_and]
    have j140 : J 140 e = nI (lc e + 1) := by rw [← hJ, zI_s]
    have hm : ∀ a, (a = eid e ∨ a = eid e + 2) → Hm K a (eid e) := fun a z => by
      rcases z with z | z <;> subst z
      · exact hm_e b1 he' (show 0 ≤ 5 by omega)
      · exact hm_e b1 he' (show 2 ≤ 5 by omega)
    have kr : ∀ a j, a ≠ eid e + 1 → (zR K (eid e + 1) (lc e) (some (pid p))).2.2 a j = K.2.2 a j := fun a j z => by rw [zR_ne z]
    obtain ⟨r1, r2, r3, r4, r5, r6, r7⟩ := h'.sr f (fun a j z => by unfold rsS byS twS cdS seS clS at z; omega) (h'.vD.2.ft f (fun x1 x2 x3 y1 y2 y3 w1 w2 w3 a j z => by have := z_nat w3 b3 (by omega) (by have := b1.1; omega); omega))
    refine ⟨np, nb, pid, pts, bid, hA.fz ⟨hC0.ext (Nat.le_refl _) (fun _ _ => rfl) (fun a ha => zR_ne (by omega)), hM0.zR (by omega), Nat.le_refl _, fun _ _ => rfl, fun x _ => kr 4 x (by omega), fun x _ => kr 3 x (by omega), fun x => kr 2 x (by omega), fun a j z z1 z2 => kr a j (fun y => z2 (by rw [y, q4]))⟩ f ⟨fun a j z => by unfold wdS at z; omega, fun a j z z1 z2 => ⟨eid e, hm a (by omega), by rw [q3]; omega⟩⟩ (by omega), hS.fz (Nat.le_refl _) (fun _ _ => rfl) (fun j => kr 21 j (by omega)) (fun a j z z1 z2 => kr a j (fun y => by rw [y, q4] at z2; exact absurd z2 (by decide))) f (fun a j z => by unfold smS at z; omega) (fun a j z z1 z2 => ⟨eid e, hm a (by omega), by rw [q3]; omega⟩), ⟨ne, eid, fun x => if x = e then lc e + 1 else lc x, fun x y => if x = e ∧ y = lc e then p else hp x y, wc, wi, fun x y => if x = e ∧ y = lc e then s else hz x y, ⟨b1.1, fun x hx => ?_, b1.2.2⟩, by rw [f 0 18 (by omega)]; exact b2, by rw [f 59 114 (by omega)]; exact b3, fun x hx => ?_, fun x hx => ?_⟩, hT.fz hA.bk f (fun a j z => by unfold trM2 at z; omega) (fun a j z z1 z2 => ⟨eid e, hm a (by omega), by rw [q3]; omega⟩), hM.fz (fun j => kr 27 j (by omega)) f (fun a j z => by unfold mkS at z; omega), r1, r2, r3, r4, r5, hG.fz hA.pk f (fun j => by omega) (fun a j z z1 z2 => ⟨eid e, hm a (by omega), by rw [q3]; omega⟩), r6, r7⟩
    · obtain ⟨g0, g1, g2, g3, g4, g5, g6, g7, g8, g9, g10, g11, g12, g13⟩ := b1.2.1 x hx
      have dx : eid x ≠ eid e + 1 := fun z => by have := b1.dis (x := 0) (y := 1) hx he' (by omega) (by omega) z; omega
      exact ⟨by rw [kr _ _ (by omega)]; exact g0, g1, g2, g3, g4, g5, g6, g7, g8, by rw [kr _ _ dx]; exact g9, by rw [kr _ _ dx]; exact g10, by rw [kr _ _ dx]; exact g11, by rw [kr _ _ dx]; exact g12, by rw [kr _ _ dx]; exact g13⟩
    · obtain ⟨c1, c2, c3, c4⟩ := b4 x hx
      have gx := (b1.2.1 x hx).2.1
      simp only [j141]
      by_cases y : x = e
      · subst y
        simp only [if_true, true_and]
        refine ⟨by omega, j3, j140, fun i hi => ?_⟩
        by_cases w : i = lc x
        · simp only [if_pos w, if_pos (show 8 * x + i = 8 * x + lc x by omega)]
          subst w
          exact ⟨hpn, zR_e, trivial⟩
        · simp only [if_neg w, if_neg (show ¬ 8 * x + i = 8 * x + lc x by omega), zR_o w]
          exact c4 i (by omega)
      · have d4 : ∀ a b, a ≤ 5 → b ≤ 5 → eid x + a ≠ eid e + b := fun a b ha hb z => y (b1.dis hx he' ha hb z).1
        have d0 := d4 0 0 (by omega) (by omega)
        have d2 := d4 0 2 (by omega) (by omega)
        simp only [if_neg y, y, false_and, if_false]
        refine ⟨c1, by rw [f (eid x) 3 (by omega)]; exact c2, by rw [f 140 x (by omega)]; exact c3, fun i hi => ?_⟩
        rw [kr _ _ (d4 1 1 (by omega) (by omega)), if_neg (by omega)]
        exact c4 i hi
    · obtain ⟨c1, c2, c3, c4, c5, c6⟩ := b5 x hx
      obtain ⟨l1, _⟩ := b4 x hx
      have gx := (b1.2.1 x hx).2.1
      have d3 : ∀ a b, a ≤ 5 → b ≤ 5 → a ≠ b → eid x + a ≠ eid e + b := fun a b ha hb n z => n (b1.dis hx he' ha hb z).2
      have d02 := d3 0 2 (by omega) (by omega) (by omega)
      have d30 := d3 3 0 (by omega) (by omega) (by omega)
      have d32 := d3 3 2 (by omega) (by omega) (by omega)
      have d40 := d3 4 0 (by omega) (by omega) (by omega)
      have d42 := d3 4 2 (by omega) (by omega) (by omega)
      have d50 := d3 5 0 (by omega) (by omega) (by omega)
      have d52 := d3 5 2 (by omega) (by omega) (by omega)
      have d20 := d3 2 0 (by omega) (by omega) (by omega)
      refine ⟨c1, by rw [f (eid x) 7 (by omega)]; exact c2, by rw [f 143 x (by omega)]; exact c3, by rw [f (eid x) 0 (by omega), f 139 x (by omega)]; exact c4, fun w hw => ?_, fun i hi => ?_⟩
      · rw [f (eid x + 3) w (by omega), f (eid x + 4) w (by omega), f (eid x + 5) w (by omega), f 144 _ (by omega), f 145 _ (by omega), f 146 _ (by omega)]
        obtain ⟨m1, m2⟩ := c5 w hw
        refine ⟨?_, m2⟩
        show wi x w < if x = e then lc e + 1 else lc x
        by_cases y : x = e
        · rw [if_pos y]; subst y; omega
        · rw [if_neg y]; exact m1
      · rw [j142]
        by_cases y : x = e
        · subst y
          simp only [if_true] at hi
          rw [j2]
          by_cases w : i = lc x
          · simp only [if_pos w, if_pos (show 8 * x + i = 8 * x + lc x by omega), w, and_self, if_true]
            exact ⟨hs, trivial⟩
          · simp only [if_neg w, if_neg (show ¬ 8 * x + i = 8 * x + lc x by omega), w, and_false, if_false]
            exact c6 i (by omega)
        · simp only [if_neg y] at hi
          have d4 : eid x + 2 ≠ eid e + 2 := fun z => y (b1.dis hx he' (show 2 ≤ 5 by omega) (by omega) z).1
          simp only [y, false_and, if_false]
          rw [f (eid x + 2) i (by omega), if_neg (by omega)]
          exact c6 i hi
end RW4
