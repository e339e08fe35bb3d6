/-! row of trial -/
section RW5
variable {n0 c : Nat} {K K' : z_K} {I I' : z_I} {L : z_L} {np nb ns ne : Nat} {sid eid pid bid pts : Nat → Nat} {p0 p1 p2 p3 p4 p5 p6 p7 : Int32}
theorem tcn_up {tb tb' : Nat → Nat} {i : Nat} : ∀ n, (∀ k, k < n → tb' k = tb k) → tcn tb' i n = tcn tb i n
  | 0, _ => rfl
  | n + 1, h => by
    show tcn tb' i n + (if tb' n = i then 1 else 0) = tcn tb i n + (if tb n = i then 1 else 0)
    rw [tcn_up n (fun k hk => h k (by omega)), h n (by omega)]
theorem rw_trial (h : Inv c K I) : OpU n0 xX12_trial xX13_trial [.int p0, .int p1, .int p2, .int p3, .int p4, .int p5] K I L (Iv (c + 1)) := by
  have h' := h
  obtain ⟨hC0, hM0⟩ := h.lay
  obtain ⟨np, nb, pid, pts, bid, hA, hS, hE, ⟨nt, tp, tb, ta, te, t1, t2, t3, t4, t5⟩, hM, _, _, _, _, _, hG, _, _⟩ := h
  have h152 := hA.lay.2.2
  have hBk := hA.bk
  have hA' := hA
  obtain ⟨nr, na, t, rid, rp, rk, ln, cx, cy, m, par, X, Y, A, ⟨g1, g2, g3, g4, g5, g6, g7, g8, g9, g10, g11, g12, g13, g14, g15, g16, g17⟩, hB, ht⟩ := hA'
  refine (op_trial (d := 0) (P := Iv (c + 1) K) (tc := fun i => tcn tb i nt) hC0 hM0 hA.pk g5 hBk g11 t2 t3 t1 (fun i hi => ⟨t4 i hi, tcn_le nt⟩) h'.hr (fun i j l b hi hj hl hb h30 e1 e2 e3 e4 v1 v2 w1 w2 => ?_)).U (by omega) (by omega)
  obtain ⟨T, hT⟩ : ∃ T, T = tcn tb b nt := ⟨_, rfl⟩
  rw [← hT]
  generalize hJ : zI (zI (zI (zI (zI (zI (zI (zI (zI (zI (zI (zI I (bid b + 5) T (nI ((i * 10 + j) * 10 + l))) (bid b + 6) T (p4 - p5)) (bid b + 7) T (p4 + p5)) (bid b) 9 (nI (T + 1))) 0 6 (nI (nt + 1))) 133 nt (nI i)) 134 nt (nI b)) 135 nt (nI j)) 136 nt (nI l)) 137 nt (p4 - p5)) 138 nt (p4 + p5)) 59 107 (nI (nt + 1)) = J
  have gb := hBk.ge hb
  have cl := hBk.cls hb
  have f : Fz (fun a k => (a = bid b + 5 ∧ k = T) ∨ (a = bid b + 6 ∧ k = T) ∨ (a = bid b + 7 ∧ k = T) ∨ (a = bid b ∧ k = 9) ∨ (a = 0 ∧ k = 6) ∨ (133 ≤ a ∧ a ≤ 138 ∧ k = nt) ∨ (a = 59 ∧ k = 107)) I J := by
    rw [← hJ]
    refine Fz.z (Fz.z (Fz.z (Fz.z (Fz.z (Fz.z (Fz.z (Fz.z (Fz.z (Fz.z (Fz.z (Fz.z Fz.rfl' ?_) ?_) ?_) ?_) ?_) ?_) ?_) ?_) ?_) ?_) ?_) ?_ <;> omega
  have j5 : ∀ k, J (bid b + 5) k = if k = T then nI ((i * 10 + j) * 10 + l) else I (bid b + 5) k := fun k => by
    rw [← hJ, zI_r (by omega), zI_r (by omega), zI_r (by omega), zI_r (by omega), zI_r (by omega), zI_r (by omega), zI_r (by omega), zI_r (by omega), zI_r (by omega), zI_r (by omega), zI_r (by omega), zI_if]; simp only [true_and]
  have j6 : ∀ k, J (bid b + 6) k = if k = T then p4 - p5 else I (bid b + 6) k := fun k => by
    rw [← hJ, zI_r (by omega), zI_r (by omega), zI_r (by omega), zI_r (by omega), zI_r (by omega), zI_r (by omega), zI_r (by omega), zI_r (by omega), zI_r (by omega), zI_r (by omega), zI_if, zI_r (show bid b + 6 ≠ bid b + 5 by omega)]; simp only [true_and]
  have j7 : ∀ k, J (bid b + 7) k = if k = T then p4 + p5 else I (bid b + 7) k := fun k => by
    rw [← hJ, zI_r (by omega), zI_r (by omega), zI_r (by omega), zI_r (by omega), zI_r (by omega), zI_r (by omega), zI_r (by omega), zI_r (by omega), zI_r (by omega), zI_if, zI_r (show bid b + 7 ≠ bid b + 6 by omega), zI_r (show bid b + 7 ≠ bid b + 5 by omega)]; simp only [true_and]
  have j9 : J (bid b) 9 = nI (T + 1) := by
    rw [← hJ, zI_r (by omega), zI_r (by omega), zI_r (by omega), zI_r (by omega), zI_r (by omega), zI_r (by omega), zI_r (by omega), zI_r (by omega), zI_s]
  have n : ∀ x y, x < 152 → ¬ x = bid b + y := fun x y z => by omega
  have n0' : ∀ x, x < 152 → ¬ x = bid b := fun x z => by omega
  have j06 : J 0 6 = nI (nt + 1) := by rw [← hJ]; simp [zI_if]
  have j107 : J 59 107 = nI (nt + 1) := by rw [← hJ]; simp [zI_if]
  have k133 : ∀ k, J 133 k = if k = nt then nI i else I 133 k := fun k => by rw [← hJ]; simp [zI_if, n, n0']
  have k134 : ∀ k, J 134 k = if k = nt then nI b else I 134 k := fun k => by rw [← hJ]; simp [zI_if, n, n0']
  have k135 : ∀ k, J 135 k = if k = nt then nI j else I 135 k := fun k => by rw [← hJ]; simp [zI_if, n, n0']
  have k136 : ∀ k, J 136 k = if k = nt then nI l else I 136 k := fun k => by rw [← hJ]; simp [zI_if, n, n0']
  have k137 : ∀ k, J 137 k = if k = nt then p4 - p5 else I 137 k := fun k => by rw [← hJ]; simp [zI_if, n, n0']
  have k138 : ∀ k, J 138 k = if k = nt then p4 + p5 else I 138 k := fun k => by rw [← hJ]; simp [zI_if, n, n0']
  clear hJ
  have hm : ∀ a, (a = bid b ∨ a = bid b + 5 ∨ a = bid b + 6 ∨ a = bid b + 7) → Hm K a (bid b) := fun a z => by
    rcases z with z | z | z | z <;> subst z
    · exact hm_b hBk hb (show 0 ≤ 7 by omega)
    · exact hm_b hBk hb (show 5 ≤ 7 by omega)
    · exact hm_b hBk hb (show 6 ≤ 7 by omega)
    · exact hm_b hBk hb (show 7 ≤ 7 by omega)
  obtain ⟨r1, r2, r3, r4, r5, r6, r7⟩ := h'.sr f (fun a j z => by unfold rsS byS twS cdS seS clS at z; omega) (h'.vD.2.fz f (fun a j z => by unfold zzS at z; omega))
  have p16 := hA.pk.1
  have pi := g5.2.2 i hi
  refine ⟨np, nb, pid, pts, bid, hA.fz (KE.rf hC0 hM0) f ⟨fun a j z => by unfold wdS at z; omega, fun a j z z1 z2 => ⟨bid b, hm a (by omega), by rw [cl]; omega⟩⟩ (by omega), hS.fz (Nat.le_refl _) (fun _ _ => rfl) (fun _ => rfl) (fun _ _ _ _ _ => rfl) f (fun a j z => by unfold smS at z; omega) (fun a j z z1 z2 => ⟨bid b, hm a (by omega), by rw [cl]; omega⟩), hE.fz (Nat.le_refl _) (fun _ _ => rfl) (fun _ => rfl) (fun _ _ _ _ _ => rfl) f (fun a j z => by unfold edS at z; omega) (fun a j z z1 z2 => ⟨bid b, hm a (by omega), by rw [cl]; omega⟩), ⟨nt + 1, fun k => if k = nt then i else tp k, fun k => if k = nt then b else tb k, fun k => if k = nt then j else ta k, fun k => if k = nt then l else te k, by omega, j06, j107, fun x hx => ?_, fun k hk => ?_⟩, hM.fz (fun _ => rfl) f (fun a j z => by unfold mkS at z; omega), r1, r2, r3, r4, r5, hG.fz hA.pk f (fun j => by omega) (fun a j z z1 z2 => ⟨bid b, hm a (by omega), by rw [cl]; omega⟩), r6, r7⟩
  · have u := tcn_up (tb := tb) (tb' := fun k => if k = nt then b else tb k) (i := x) nt (fun k hk => if_neg (by omega))
    have q : tcn (fun k => if k = nt then b else tb k) x (nt + 1) = tcn tb x nt + (if b = x then 1 else 0) := by
      show tcn (fun k => if k = nt then b else tb k) x nt + (if (if nt = nt then b else tb nt) = x then 1 else 0) = _
      rw [u, if_pos rfl]
    rw [q]
    by_cases y : b = x
    · subst y
      rw [if_pos rfl, j9, hT]
    · have gx := hBk.ge hx
      have d0 : ∀ z, z ≤ 7 → bid x ≠ bid b + z := fun z hz => hBk.dis (a := 0) hx hb (fun w => y w.symm) (by omega) hz
      have d1 := d0 0 (by omega)
      have d5 := d0 5 (by omega)
      have d6 := d0 6 (by omega)
      have d7 := d0 7 (by omega)
      rw [if_neg y, f (bid x) 9 (by omega)]
      exact t4 x hx
  · have u : ∀ x q, q ≤ nt → tcn (fun k => if k = nt then b else tb k) x q = tcn tb x q := fun x q hq => tcn_up q (fun k hk => if_neg (by omega))
    simp only [u _ k (by omega), k133, k134, k135, k136, k137, k138]
    by_cases y : k = nt
    · subst y
      simp only [if_true]
      rw [← hT, j5, j6, j7, if_pos rfl, if_pos rfl, if_pos rfl]
      have s1 : (p4 - p5).toInt = p4.toInt - p5.toInt := q_sub (by omega) (by omega)
      have s2 : (p4 + p5).toInt = p4.toInt + p5.toInt := q_add (by omega) (by omega)
      exact ⟨by omega, hb, by omega, by have := pi.2.2.2; omega, trivial, trivial, trivial, trivial, rfl, rfl, rfl, by omega, by omega⟩
    · simp only [if_neg y]
      have q := t5 k (by omega)
      have hbk := q.2.1
      by_cases z : tb k = b
      · have st : tcn tb b k < T := by
          have m2 := tcn_mono (tb := tb) (i := b) (k := k + 1) (nt - (k + 1))
          rw [show k + 1 + (nt - (k + 1)) = nt by omega] at m2
          have : tcn tb b (k + 1) = tcn tb b k + 1 := by show tcn tb b k + (if tb k = b then 1 else 0) = _; rw [if_pos z]
          omega
        rw [z] at q ⊢
        rw [j5, j6, j7, if_neg (by omega), if_neg (by omega), if_neg (by omega)]
        exact q
      · have gx := hBk.ge hbk
        have d0 : ∀ x z', x ≤ 7 → z' ≤ 7 → bid (tb k) + x ≠ bid b + z' := fun x z' hx hz => hBk.dis hbk hb z hx hz
        have a0 := d0 5 0 (by omega) (by omega)
        have a5 := d0 5 5 (by omega) (by omega)
        have a6 := d0 5 6 (by omega) (by omega)
        have a7 := d0 5 7 (by omega) (by omega)
        have b0 := d0 6 0 (by omega) (by omega)
        have b5 := d0 6 5 (by omega) (by omega)
        have b6 := d0 6 6 (by omega) (by omega)
        have b7 := d0 6 7 (by omega) (by omega)
        have c0 := d0 7 0 (by omega) (by omega)
        have c5 := d0 7 5 (by omega) (by omega)
        have c6 := d0 7 6 (by omega) (by omega)
        have c7 := d0 7 7 (by omega) (by omega)
        rw [f (bid (tb k) + 5) _ (by omega), f (bid (tb k) + 6) _ (by omega), f (bid (tb k) + 7) _ (by omega)]
        exact q
end RW5
