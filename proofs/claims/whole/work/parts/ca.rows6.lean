/-! rows of grade, curve, straight, alter -/
section RW7
variable {n0 c : Nat} {K K' : z_K} {I J : z_I} {L : z_L} {S : Nat → Nat → Prop} {np nr nb na t ns ne : Nat} {pid pts rid rp rk ln cx cy bid m : Nat → Nat} {par : Nat → Option Nat} {X Y : Nat → List Int32} {A : Int32 → Int32 → Option (Int32 × Int32)} {p0 p1 p2 p3 p4 p5 p6 p7 : Int32}
/-- a point's rows of a piece are written, and the reference's rows at the same place -/
def pgS (pid : Nat → Nat) (i k a j : Nat) : Prop := (pid i + 2 ≤ a ∧ a ≤ pid i + 6 ∧ j = k) ∨ (70 ≤ a ∧ a ≤ 74 ∧ j = 10 * i + k)
theorem PcK.dis (h : PcK K np pid) {s i x y : Nat} (hs : s < np) (hi : i < np) (hx : x ≤ 6) (hy : y ≤ 6) (e : pid s + x = pid i + y) : s = i ∧ x = y := by
  have a := hm_p h hs hx
  rw [e] at a
  have b := a.u (hm_p h hi hy)
  have := h.2.2 s i hs hi b
  omega
theorem Inv.pg (h : Inv c K I) (hW : Wd K I np nr nb na t pid pts rid rp rk ln cx cy bid m par X Y A) (ht : t ≤ c ∧ Own K) (hc : ∀ r, r < nr → cx r = rid r + 1 ∧ cy r = rid r + 2) (hS : IvS K I np pid pts) (hE : IvE K I np pid) (hT : IvT I nb bid) (hM : IvM K I np pid) (hG : IvG I np pid) (hB : WdB I np A) {i k : Nat} (hi : i < np) (hk : k < 10) (f : Fz (pgS pid i k) I J)
    (hv : J (pid i + 2) k = J 70 (10 * i + k) ∧ J (pid i + 3) k = J 71 (10 * i + k) ∧ J (pid i + 4) k = J 72 (10 * i + k) ∧ J (pid i + 5) k = J 73 (10 * i + k) ∧ J (pid i + 6) k = J 74 (10 * i + k))
    (hb : (-99 ≤ (J 70 (10 * i + k)).toInt ∧ (J 70 (10 * i + k)).toInt ≤ 99) ∧ (-99 ≤ (J 71 (10 * i + k)).toInt ∧ (J 71 (10 * i + k)).toInt ≤ 99) ∧ (-999 ≤ (J 73 (10 * i + k)).toInt ∧ (J 73 (10 * i + k)).toInt ≤ 999) ∧ (-999 ≤ (J 74 (10 * i + k)).toInt ∧ (J 74 (10 * i + k)).toInt ≤ 999)) : Inv (c + 1) K J := by
  have hW' := hW
  obtain ⟨g1, g2, g3, g4, g5, g6, g7, g8, g9, g10, g11, g12, g13, g14, g15, g16, g17⟩ := hW'
  have gi := g4.ge hi
  have cl := g4.cls hi
  have hn := g4.1
  have er : ∀ a, ¬ (pid i + 2 ≤ a ∧ a ≤ pid i + 6) → ¬ (70 ≤ a ∧ a ≤ 74) → J a = I a := fun a z1 z2 => funext fun j => f a j (by unfold pgS; omega)
  have bg : ∀ b, b < nb → 152 ≤ bid b := fun i hi => g10.ge hi
  have bn : ∀ b x, b < nb → x ≤ 7 → ¬ (pid i + 2 ≤ bid b + x ∧ bid b + x ≤ pid i + 6) := fun b x hb' hx z => by
    have q := (hm_b g10 hb' hx).nq (hm_p g4 hi (show bid b + x - pid i ≤ 6 by omega)) (by rw [g10.cls hb', cl]; omega)
    omega
  have e0 : ∀ a j, a < 152 → ¬ (70 ≤ a ∧ a ≤ 74) → J a j = I a j := fun a j z1 z2 => f a j (by unfold pgS; omega)
  refine h.wg hW ht hc hS hE hT hM hG f (fun a j z _ => by unfold pgS at z; omega) (fun a j z z1 z2 => ⟨pid i, ?_, by unfold pgS at z; omega⟩) (fun p q hp hq => ?_) (g12.ag (e0 0 5 (by omega) (by omega)) (e0 59 49 (by omega) (by omega)) (fun a z1 z2 => er a (by omega) (by omega)) (fun b hb' => by have := bg b hb'; exact ⟨by rw [er (bid b) (bn b 0 hb' (by omega)) (by omega)], er _ (bn b 2 hb' (by omega)) (by omega), er _ (bn b 3 hb' (by omega)) (by omega), er _ (bn b 4 hb' (by omega)) (by omega)⟩)) (g17.ag (er 64 (by omega) (by omega)) (er 65 (by omega) (by omega)) (fun b hb' => by have := bg b hb'; exact ⟨by rw [er (bid b) (bn b 0 hb' (by omega)) (by omega)], er _ (bn b 1 hb' (by omega)) (by omega)⟩)) (by rw [e0 0 0 (by omega) (by omega), e0 59 0 (by omega) (by omega)]; exact g13) (by rw [e0 59 0 (by omega) (by omega)]; omega) ⟨fun p q hp hq => ?_, hB.2⟩ (h.vD.fz f (by unfold pgS; omega) (h.vD.2.ft f (fun x1 x2 x3 y1 y2 y3 w1 w2 w3 a j z => ?_)))
  · unfold pgS at z
    have := hm_p g4 hi (show a - pid i ≤ 6 by omega)
    rw [show pid i + (a - pid i) = a by omega] at this
    exact this
  · by_cases y : p = i ∧ q = k
    · rw [y.1, y.2]; exact hv
    · have hp' := g4.ge hp
      have d : ∀ x, 2 ≤ x → x ≤ 6 → ¬ pgS pid i k (pid p + x) q := fun x h2 h6 z => by
        unfold pgS at z
        have z1 : pid i + 2 ≤ pid p + x ∧ pid p + x ≤ pid i + 6 ∧ q = k := by omega
        have := g4.dis (y := pid p + x - pid i) hp hi h6 (by omega) (by omega)
        omega
      have d2 : ∀ a, 70 ≤ a → a ≤ 74 → ¬ pgS pid i k a (10 * p + q) := fun a _ _ z => by
        unfold pgS at z
        omega
      rw [f _ _ (d 2 (by omega) (by omega)), f _ _ (d 3 (by omega) (by omega)), f _ _ (d 4 (by omega) (by omega)), f _ _ (d 5 (by omega) (by omega)), f _ _ (d 6 (by omega) (by omega)), f _ _ (d2 70 (by omega) (by omega)), f _ _ (d2 71 (by omega) (by omega)), f _ _ (d2 72 (by omega) (by omega)), f _ _ (d2 73 (by omega) (by omega)), f _ _ (d2 74 (by omega) (by omega))]
      exact g9 p q hp hq
  · by_cases y : p = i ∧ q = k
    · rw [y.1, y.2]; exact hb
    · have d2 : ∀ a, 70 ≤ a → a ≤ 74 → ¬ pgS pid i k a (10 * p + q) := fun a _ _ z => by
        unfold pgS at z
        omega
      rw [f _ _ (d2 70 (by omega) (by omega)), f _ _ (d2 71 (by omega) (by omega)), f _ _ (d2 73 (by omega) (by omega)), f _ _ (d2 74 (by omega) (by omega))]
      exact hB.1 p q hp hq
  · unfold pgS at z
    have := z_nat w1 g5.2.1 (by omega) (by omega)
    omega
theorem rw_grade (h : Inv c K I) : OpU n0 xX12_grade xX13_grade [.int p0, .int p1, .int p2, .int p3] K I L (Iv (c + 1)) := by
  have h' := h
  obtain ⟨hC0, hM0⟩ := h.lay
  obtain ⟨np, nb, pid, pts, bid, hA, hS, hE, hT, hM, _, _, _, _, _, hG, _, _⟩ := h
  obtain ⟨nr, na, t, rid, rp, rk, ln, cx, cy, m, par, X, Y, A, hW, hB, ht⟩ := hA
  have hW' := hW
  obtain ⟨g1, g2, g3, g4, g5, g6, g7, g8, g9, g10, g11, g12, g13, g14, g15, g16, g17⟩ := hW'
  refine (op_grade (d := 0) (P := Iv (c + 1) K) hC0 hM0 g4 g5 h'.hr (fun i j hi hj e1 e2 e3 e4 => ?_)).U (by omega) (by omega)
  have e1 : -99 ≤ p2.toInt := Int.not_lt.mp (fun z => e1 (q_lt.mpr z))
  have e2 : -99 ≤ p3.toInt := Int.not_lt.mp (fun z => e2 (q_lt.mpr z))
  have e3 : p2.toInt ≤ 99 := Int.not_lt.mp (fun z => e3 (q_lt.mpr z))
  have e4 : p3.toInt ≤ 99 := Int.not_lt.mp (fun z => e4 (q_lt.mpr z))
  have gi := g4.ge hi
  have h10 := (g5.2.2 i hi).2.2.2
  have q9 := g9 i j hi (by omega)
  have qb := hB.1 i j hi (by omega)
  refine h'.pg hW ht.1 ht.2 hS hE hT hM hG hB hi (k := j) (by omega) ?_ ?_ ?_
  · refine Fz.z (Fz.z (Fz.z (Fz.z Fz.rfl' ?_) ?_) ?_) ?_ <;> (unfold pgS; omega)
  · refine ⟨?_, ?_, ?_, ?_, ?_⟩
    · rw [zI_r (by omega), zI_r (by omega), zI_r (by omega), zI_s, zI_r (by omega), zI_s]
    · rw [zI_r (by omega), zI_r (by omega), zI_s, zI_s]
    · rw [zI_r (by omega), zI_r (by omega), zI_r (by omega), zI_r (by omega), zI_r (by omega), zI_r (by omega), zI_r (by omega), zI_r (by omega)]; exact q9.2.2.1
    · rw [zI_r (by omega), zI_r (by omega), zI_r (by omega), zI_r (by omega), zI_r (by omega), zI_r (by omega), zI_r (by omega), zI_r (by omega)]; exact q9.2.2.2.1
    · rw [zI_r (by omega), zI_r (by omega), zI_r (by omega), zI_r (by omega), zI_r (by omega), zI_r (by omega), zI_r (by omega), zI_r (by omega)]; exact q9.2.2.2.2
  · refine ⟨?_, ?_, ?_, ?_⟩
    · rw [zI_r (by omega), zI_s]; exact ⟨e1, e3⟩
    · rw [zI_s]; exact ⟨e2, e4⟩
    · rw [zI_r (by omega), zI_r (by omega), zI_r (by omega), zI_r (by omega)]; exact qb.2.2.1
    · rw [zI_r (by omega), zI_r (by omega), zI_r (by omega), zI_r (by omega)]; exact qb.2.2.2
theorem rw_curve (h : Inv c K I) : OpU n0 xX12_curve xX13_curve [.int p0, .int p1, .int p2, .int p3] K I L (Iv (c + 1)) := by
  have h' := h
  obtain ⟨hC0, hM0⟩ := h.lay
  obtain ⟨np, nb, pid, pts, bid, hA, hS, hE, hT, hM, _, _, _, _, _, hG, _, _⟩ := h
  obtain ⟨nr, na, t, rid, rp, rk, ln, cx, cy, m, par, X, Y, A, hW, hB, ht⟩ := hA
  have hW' := hW
  obtain ⟨g1, g2, g3, g4, g5, g6, g7, g8, g9, g10, g11, g12, g13, g14, g15, g16, g17⟩ := hW'
  refine (op_curve (d := 0) (P := Iv (c + 1) K) hC0 hM0 g4 g5 h'.hr (fun i j hi hj e1 e2 e3 e4 => ?_)).U (by omega) (by omega)
  have e1 : -999 ≤ p2.toInt := Int.not_lt.mp (fun z => e1 (q_lt.mpr z))
  have e2 : -999 ≤ p3.toInt := Int.not_lt.mp (fun z => e2 (q_lt.mpr z))
  have e3 : p2.toInt ≤ 999 := Int.not_lt.mp (fun z => e3 (q_lt.mpr z))
  have e4 : p3.toInt ≤ 999 := Int.not_lt.mp (fun z => e4 (q_lt.mpr z))
  have gi := g4.ge hi
  have h10 := (g5.2.2 i hi).2.2.2
  have q9 := g9 i j hi (by omega)
  have qb := hB.1 i j hi (by omega)
  refine h'.pg hW ht.1 ht.2 hS hE hT hM hG hB hi (k := j) (by omega) ?_ ?_ ?_
  · refine Fz.z (Fz.z (Fz.z (Fz.z (Fz.z (Fz.z Fz.rfl' ?_) ?_) ?_) ?_) ?_) ?_ <;> (unfold pgS; omega)
  · refine ⟨?_, ?_, ?_, ?_, ?_⟩
    · rw [zI_r (by omega), zI_r (by omega), zI_r (by omega), zI_r (by omega), zI_r (by omega), zI_r (by omega), zI_r (by omega), zI_r (by omega), zI_r (by omega), zI_r (by omega), zI_r (by omega), zI_r (by omega)]; exact q9.1
    · rw [zI_r (by omega), zI_r (by omega), zI_r (by omega), zI_r (by omega), zI_r (by omega), zI_r (by omega), zI_r (by omega), zI_r (by omega), zI_r (by omega), zI_r (by omega), zI_r (by omega), zI_r (by omega)]; exact q9.2.1
    · rw [zI_r (by omega), zI_r (by omega), zI_r (by omega), zI_r (by omega), zI_r (by omega), zI_s, zI_r (by omega), zI_r (by omega), zI_s]
    · rw [zI_r (by omega), zI_r (by omega), zI_r (by omega), zI_r (by omega), zI_s, zI_r (by omega), zI_s]
    · rw [zI_r (by omega), zI_r (by omega), zI_r (by omega), zI_s, zI_s]
  · refine ⟨?_, ?_, ?_, ?_⟩
    · rw [zI_r (by omega), zI_r (by omega), zI_r (by omega), zI_r (by omega), zI_r (by omega), zI_r (by omega)]; exact qb.1
    · rw [zI_r (by omega), zI_r (by omega), zI_r (by omega), zI_r (by omega), zI_r (by omega), zI_r (by omega)]; exact qb.2.1
    · rw [zI_r (by omega), zI_s]; exact ⟨e1, e3⟩
    · rw [zI_s]; exact ⟨e2, e4⟩
theorem rw_straight (h : Inv c K I) : OpU n0 xX12_straight xX13_straight [.int p0, .int p1] K I L (Iv (c + 1)) := by
  have h' := h
  obtain ⟨hC0, hM0⟩ := h.lay
  obtain ⟨np, nb, pid, pts, bid, hA, hS, hE, hT, hM, _, _, _, _, _, hG, _, _⟩ := h
  obtain ⟨nr, na, t, rid, rp, rk, ln, cx, cy, m, par, X, Y, A, hW, hB, ht⟩ := hA
  have hW' := hW
  obtain ⟨g1, g2, g3, g4, g5, g6, g7, g8, g9, g10, g11, g12, g13, g14, g15, g16, g17⟩ := hW'
  refine (op_straight (d := 0) (P := Iv (c + 1) K) hC0 hM0 g4 g5 (fun i j hi hj => (g9 i j hi hj).2.2.1) h'.hr (fun i j hi hj e1 => ?_) (fun i j hi hj e1 => ?_)).U (by omega) (by omega)
  · have gi := g4.ge hi
    have h10 := (g5.2.2 i hi).2.2.2
    have q9 := g9 i j hi (by omega)
    have qb := hB.1 i j hi (by omega)
    refine h'.pg hW ht.1 ht.2 hS hE hT hM hG hB hi (k := j) (by omega) ?_ ?_ ?_
    · refine Fz.z Fz.rfl' ?_; unfold pgS; omega
    · refine ⟨?_, ?_, ?_, ?_, ?_⟩
      · rw [zI_r (by omega), zI_r (by omega)]; exact q9.1
      · rw [zI_r (by omega), zI_r (by omega)]; exact q9.2.1
      · rw [zI_r (by omega), zI_s, q9.2.2.1]; exact e1
      · rw [zI_r (by omega), zI_r (by omega)]; exact q9.2.2.2.1
      · rw [zI_r (by omega), zI_r (by omega)]; exact q9.2.2.2.2
    · refine ⟨?_, ?_, ?_, ?_⟩
      · rw [zI_r (by omega)]; exact qb.1
      · rw [zI_r (by omega)]; exact qb.2.1
      · rw [zI_r (by omega)]; exact qb.2.2.1
      · rw [zI_r (by omega)]; exact qb.2.2.2
  · have gi := g4.ge hi
    have h10 := (g5.2.2 i hi).2.2.2
    have q9 := g9 i j hi (by omega)
    have qb := hB.1 i j hi (by omega)
    refine h'.pg hW ht.1 ht.2 hS hE hT hM hG hB hi (k := j) (by omega) ?_ ?_ ?_
    · refine Fz.z (Fz.z Fz.rfl' ?_) ?_ <;> (unfold pgS; omega)
    · refine ⟨?_, ?_, ?_, ?_, ?_⟩
      · rw [zI_r (by omega), zI_r (by omega), zI_r (by omega), zI_r (by omega)]; exact q9.1
      · rw [zI_r (by omega), zI_r (by omega), zI_r (by omega), zI_r (by omega)]; exact q9.2.1
      · rw [zI_r (by omega), zI_s, zI_s]
      · rw [zI_r (by omega), zI_r (by omega), zI_r (by omega), zI_r (by omega)]; exact q9.2.2.2.1
      · rw [zI_r (by omega), zI_r (by omega), zI_r (by omega), zI_r (by omega)]; exact q9.2.2.2.2
    · refine ⟨?_, ?_, ?_, ?_⟩
      · rw [zI_r (by omega), zI_r (by omega)]; exact qb.1
      · rw [zI_r (by omega), zI_r (by omega)]; exact qb.2.1
      · rw [zI_r (by omega), zI_r (by omega)]; exact qb.2.2.1
      · rw [zI_r (by omega), zI_r (by omega)]; exact qb.2.2.2
theorem rw_alter (h : Inv c K I) : OpU n0 xX12_alter xX13_alter [.int p0, .int p1, .int p2, .int p3, .int p4] K I L (Iv (c + 1)) := by
  have h' := h
  obtain ⟨hC0, hM0⟩ := h.lay
  obtain ⟨np, nb, pid, pts, bid, hA, hS, hE, hT, hM, _, _, _, _, _, hG, _, _⟩ := h
  obtain ⟨nr, na, t, rid, rp, rk, ln, cx, cy, m, par, X, Y, A, hW, hB, ht⟩ := hA
  have hW' := hW
  obtain ⟨g1, g2, g3, g4, g5, g6, g7, g8, g9, g10, g11, g12, g13, g14, g15, g16, g17⟩ := hW'
  refine (op_alter2 (d := 0) (P := Iv (c + 1) K) hC0 hM0 g4 g5 g10 g11 g12 h'.hr (fun b hb J na' m' A' hA' f e hv => ?_)).U (by omega) (by omega)
  obtain ⟨e1, e2, e3, e4⟩ := e
  have e1 : -999 ≤ p3.toInt := Int.not_lt.mp (fun z => e1 (q_lt.mpr z))
  have e2 : -999 ≤ p4.toInt := Int.not_lt.mp (fun z => e2 (q_lt.mpr z))
  have e3 : p3.toInt ≤ 999 := Int.not_lt.mp (fun z => e3 (q_lt.mpr z))
  have e4 : p4.toInt ≤ 999 := Int.not_lt.mp (fun z => e4 (q_lt.mpr z))
  have gb := g10.ge hb
  have cl := g10.cls hb
  have er : ∀ a, a ≠ 0 → a ≠ 59 → ¬ (88 ≤ a ∧ a ≤ 91) → a ≠ bid b → ¬ (bid b + 2 ≤ a ∧ a ≤ bid b + 4) → J a = I a := fun a z1 z2 z3 z4 z5 => funext fun j => f a j (by unfold altS; omega)
  have pn : ∀ p x y, p < np → x ≤ 6 → y ≤ 7 → pid p + x ≠ bid b + y := fun p x y hp hx hy => (hm_p g4 hp hx).nq (hm_b g10 hb hy) (by rw [g4.cls hp, cl]; omega)
  have bd : ∀ i x y, i < nb → x ≤ 7 → y ≤ 7 → x ≠ y → bid i + x ≠ bid b + y := fun i x y hi hx hy n z => by
    have a := hm_b g10 hi hx
    rw [z] at a
    have := a.u (hm_b g10 hb hy)
    omega
  refine h'.wg hW ht.1 ht.2 hS hE hT hM hG f (fun a j z _ => by unfold altS at z; omega) (fun a j z z1 z2 => ⟨bid b, ?_, by unfold altS at z; omega⟩) (g9.ag (fun a z1 z2 => er a (by omega) (by omega) (by omega) (by omega) (by omega)) (fun p x hp _ hx => ?_)) hA' (g17.ag (er 64 (by omega) (by omega) (by omega) (by omega) (by omega)) (er 65 (by omega) (by omega) (by omega) (by omega) (by omega)) (fun i hi => ?_)) (by rw [f 0 0 (by unfold altS; omega), f 59 0 (by unfold altS; omega)]; exact g13) (by rw [f 59 0 (by unfold altS; omega)]; omega) ⟨?_, fun x k v hxk => ?_⟩ (h'.vD.fz f (by unfold altS; omega) (h'.vD.2.fz f (fun a j z => by unfold zzS at z; unfold altS; omega)))
  · unfold altS at z
    have := hm_b g10 hb (show a - bid b ≤ 7 by omega)
    rw [show bid b + (a - bid b) = a by omega] at this
    exact this
  · have gp := g4.ge hp
    have n0 := pn p x 0 hp hx (by omega)
    have n2 := pn p x 2 hp hx (by omega)
    have n3 := pn p x 3 hp hx (by omega)
    have n4 := pn p x 4 hp hx (by omega)
    exact er _ (by omega) (by omega) (by omega) (by omega) (by omega)
  · have gi := g10.ge hi
    have n2 := bd i 0 2 hi (by omega) (by omega) (by omega)
    have n3 := bd i 0 3 hi (by omega) (by omega) (by omega)
    have n4 := bd i 0 4 hi (by omega) (by omega) (by omega)
    have o0 := bd i 1 0 hi (by omega) (by omega) (by omega)
    have o2 := bd i 1 2 hi (by omega) (by omega) (by omega)
    have o3 := bd i 1 3 hi (by omega) (by omega) (by omega)
    have o4 := bd i 1 4 hi (by omega) (by omega) (by omega)
    exact ⟨f _ _ (by unfold altS; omega), er _ (by omega) (by omega) (by omega) (by omega) (by omega)⟩
  · rw [er 70 (by omega) (by omega) (by omega) (by omega) (by omega), er 71 (by omega) (by omega) (by omega) (by omega) (by omega), er 73 (by omega) (by omega) (by omega) (by omega) (by omega), er 74 (by omega) (by omega) (by omega) (by omega) (by omega)]
    exact hB.1
  · have tb := hA'.2.2.2.1
    obtain ⟨r, hr, ek⟩ := tb.2.1 (x, k) v hxk
    have ev := tb.1 r hr
    have e9 : A' x k = some (J 90 r, J 91 r) := by
      have : (fun k => A' k.1 k.2) (J 89 r, J 88 r) = some (J 90 r, J 91 r) := ev
      have ek' : (J 89 r, J 88 r) = (x, k) := ek
      rw [ek'] at this
      exact this
    rw [hxk] at e9
    have e10 := Option.some.inj e9
    rw [e10]
    rcases hv r hr with ⟨q1, q2⟩ | ⟨q0, q1, q2⟩
    · rw [q1, q2]; exact ⟨⟨e1, e3⟩, e2, e4⟩
    · rw [q1, q2]
      exact hB.2 _ _ _ (g12.2.2.2.1.1 r q0)
end RW7
