/-! points on a line: halves and sixty-fourths, rounded down -/
section NOD
variable {n0 d : Nat} {K : z_K} {I : z_I} {L : z_L} {Q : z_q}
theorem q_neg0 {x : Int32} : (x < 0) ↔ x.toBitVec.msb = true := by
  rw [q_lt, BitVec.msb_eq_toInt]
  show x.toInt < 0 ↔ _
  have e : x.toBitVec.toInt = x.toInt := rfl
  rw [e]
  simp
theorem q_xs {x y : Int32} (hy : y.toBitVec.msb = false) : ((x ^^^ y) < 0) ↔ x < 0 := by
  rw [q_neg0, q_neg0, Int32.toBitVec_xor, BitVec.msb_xor, hy, Bool.xor_false]
theorem q_td {x : Int} {m : Int} (hm : 0 < m) (hx : x < 0) : Int.tdiv x m = -((-x) / m) := by
  have : x = -(-x) := by omega
  rw [this, Int.neg_tdiv, Int.tdiv_eq_ediv_of_nonneg (by omega)]
  rw [show -(-x) = x from by omega]
theorem cJ_floorDiv {x y : Int32} (hy : (y = 2 ∧ y.toInt = 2) ∨ (y = 64 ∧ y.toInt = 64)) (h : ∀ r : Int32, r.toInt = x.toInt / y.toInt → Q (some (.int r)) I L) : RM0 n0 xJ9_floorDiv_7cf53 d [.int x, .int y] K I L Q := by
  have hr := q_rng x
  have hmsb : y.toBitVec.msb = false := by rcases hy with ⟨e, _⟩ | ⟨e, _⟩ <;> subst e <;> decide
  have hne : ¬ y = 0 := by rcases hy with ⟨e, _⟩ | ⟨e, _⟩ <;> subst e <;> decide
  have hne' : y ≠ -1 := by rcases hy with ⟨e, _⟩ | ⟨e, _⟩ <;> subst e <;> decide
  have hm : y.toInt = 2 ∨ y.toInt = 64 := hy.elim (fun z => Or.inl z.2) (fun z => Or.inr z.2)
  have ed : (x / y).toInt = Int.tdiv x.toInt y.toInt := Int32.toInt_div_of_ne_right _ _ hne'
  refine wp_J9_floorDiv_7cf53 ⟨hne, ?_⟩
  by_cases g : x < 0
  · have gx := q_lt.mp g
    have e0 : (0 : Int32).toInt = 0 := rfl
    rw [q_td (by omega) (by omega)] at ed
    have em : ((x / y) * y).toInt = (x / y).toInt * y.toInt := q_mul (by rw [ed]; rcases hm with e | e <;> rw [e] <;> omega) (by rw [ed]; rcases hm with e | e <;> rw [e] <;> omega)
    refine ip ((q_xs hmsb).mpr g) ?_
    by_cases g2 : (x / y) * y = x
    · refine ip g2 (h _ ?_)
      have := q_eq.mp g2
      rw [em, ed] at this
      rw [ed]
      rcases hm with e | e <;> rw [e] at this ⊢ <;> omega
    · refine iq g2 (h _ ?_)
      have hn : ¬ ((x / y).toInt * y.toInt = x.toInt) := fun z => g2 (q_eq.mpr (by rw [em]; exact z))
      rw [ed] at hn
      have e1 : (1 : Int32).toInt = 1 := rfl
      have es : (x / y - 1).toInt = (x / y).toInt - 1 := q_sub (by rw [ed, e1]; rcases hm with e | e <;> rw [e] <;> omega) (by rw [ed, e1]; rcases hm with e | e <;> rw [e] <;> omega)
      rw [es, ed]
      rcases hm with e | e <;> rw [e] at hn ⊢ <;> omega
  · refine iq (fun z => g ((q_xs hmsb).mp z)) (h _ ?_)
    have gx := mt q_lt.mpr g
    have e0 : (0 : Int32).toInt = 0 := rfl
    rw [ed, Int.tdiv_eq_ediv_of_nonneg (by omega)]
/-- a point of a line as a whole number: step t of 8 from f to s with knee k -/
def ndZ (t f s k : Int) : Int := ((8 - t) * (8 - t) * f + 2 * t * (8 - t) * ((f + s) / 2 + k) + t * t * s) / 64
theorem ndZ_b {t : Nat} {f s k B : Int} (ht : t < 8) (hf : -B ≤ f ∧ f ≤ B) (hs : -B ≤ s ∧ s ≤ B) (hk : -999 ≤ k ∧ k ≤ 999) (hB : 0 ≤ B) : -(B + 1000) ≤ ndZ t f s k ∧ ndZ t f s k ≤ B + 1000 := by
  unfold ndZ
  have : t = 0 ∨ t = 1 ∨ t = 2 ∨ t = 3 ∨ t = 4 ∨ t = 5 ∨ t = 6 ∨ t = 7 := by omega
  rcases this with e | e | e | e | e | e | e | e <;> subst e <;> simp <;> omega
theorem ndZ_0 {f s k : Int} : ndZ 0 f s k = f := by unfold ndZ; simp
theorem c2_onLine {t : Nat} {f s k : Int32} (hC : CLay K) (ht : t < 8) (hf : -1100000 ≤ f.toInt ∧ f.toInt ≤ 1100000) (hs : -1100000 ≤ s.toInt ∧ s.toInt ≤ 1100000) (hk : -999 ≤ k.toInt ∧ k.toInt ≤ 999) (h : ∀ r : Int32, r.toInt = ndZ t f.toInt s.toInt k.toInt → Q (some (.int r)) I L) : RM0 n0 xX2_onLine (d + 1) [.int (nI t), .int f, .int s, .int k] K I L Q := by
  have ea : (f + s).toInt = f.toInt + s.toInt := q_add (by omega) (by omega)
  refine wp_X2_onLine hC (cJ_floorDiv (Or.inl ⟨rfl, rfl⟩) (fun r hr => ⟨_, rfl, cJ_floorDiv (Or.inr ⟨rfl, rfl⟩) (fun r2 hr2 => ⟨_, rfl, h r2 ?_⟩)⟩))
  rw [ea] at hr
  have hr' : r.toInt = (f.toInt + s.toInt) / 2 := hr
  have hm : (r + k).toInt = (f.toInt + s.toInt) / 2 + k.toInt := by rw [q_add (by omega) (by omega), hr']
  have hr2' : r2.toInt = ((8 - nI t) * (8 - nI t) * f + 2 * nI t * (8 - nI t) * (r + k) + nI t * nI t * s).toInt / 64 := hr2
  rw [hr2']
  unfold ndZ
  have key : ∀ a b c : Int32, 0 ≤ a.toInt → a.toInt ≤ 64 → 0 ≤ b.toInt → b.toInt ≤ 32 → 0 ≤ c.toInt → c.toInt ≤ 49 → ((a * f + b * (r + k)) + c * s).toInt = a.toInt * f.toInt + b.toInt * ((f.toInt + s.toInt) / 2 + k.toInt) + c.toInt * s.toInt := by
    intro a b c a0 a1 b0 b1 c0 c1
    have p1 : -(64 * 1100000) ≤ a.toInt * f.toInt ∧ a.toInt * f.toInt ≤ 64 * 1100000 := by
      refine ⟨?_, ?_⟩
      · have := Int.mul_le_mul_of_nonneg_left (show -1100000 ≤ f.toInt from hf.1) a0
        have : a.toInt * -1100000 ≥ 64 * -1100000 := by omega
        omega
      · have := Int.mul_le_mul_of_nonneg_left (show f.toInt ≤ 1100000 from hf.2) a0
        omega
    have p2 : -(32 * 1102000) ≤ b.toInt * ((f.toInt + s.toInt) / 2 + k.toInt) ∧ b.toInt * ((f.toInt + s.toInt) / 2 + k.toInt) ≤ 32 * 1102000 := by
      refine ⟨?_, ?_⟩
      · have := Int.mul_le_mul_of_nonneg_left (show -1102000 ≤ (f.toInt + s.toInt) / 2 + k.toInt by omega) b0
        omega
      · have := Int.mul_le_mul_of_nonneg_left (show (f.toInt + s.toInt) / 2 + k.toInt ≤ 1102000 by omega) b0
        omega
    have p3 : -(49 * 1100000) ≤ c.toInt * s.toInt ∧ c.toInt * s.toInt ≤ 49 * 1100000 := by
      refine ⟨?_, ?_⟩
      · have := Int.mul_le_mul_of_nonneg_left (show -1100000 ≤ s.toInt from hs.1) c0
        omega
      · have := Int.mul_le_mul_of_nonneg_left (show s.toInt ≤ 1100000 from hs.2) c0
        omega
    have m1 : (a * f).toInt = a.toInt * f.toInt := q_mul (by omega) (by omega)
    have m2 : (b * (r + k)).toInt = b.toInt * ((f.toInt + s.toInt) / 2 + k.toInt) := by rw [q_mul (by rw [hm]; omega) (by rw [hm]; omega), hm]
    have m3 : (c * s).toInt = c.toInt * s.toInt := q_mul (by omega) (by omega)
    rw [q_add (by rw [q_add (by omega) (by omega)]; omega) (by rw [q_add (by omega) (by omega)]; omega), q_add (by omega) (by omega), m1, m2, m3]
  have tt : t = 0 ∨ t = 1 ∨ t = 2 ∨ t = 3 ∨ t = 4 ∨ t = 5 ∨ t = 6 ∨ t = 7 := by omega
  rcases tt with e | e | e | e | e | e | e | e <;> subst e
  · exact congrArg (· / 64) (key ((8 - nI 0) * (8 - nI 0)) (2 * nI 0 * (8 - nI 0)) (nI 0 * nI 0) (by decide) (by decide) (by decide) (by decide) (by decide) (by decide))
  · exact congrArg (· / 64) (key ((8 - nI 1) * (8 - nI 1)) (2 * nI 1 * (8 - nI 1)) (nI 1 * nI 1) (by decide) (by decide) (by decide) (by decide) (by decide) (by decide))
  · exact congrArg (· / 64) (key ((8 - nI 2) * (8 - nI 2)) (2 * nI 2 * (8 - nI 2)) (nI 2 * nI 2) (by decide) (by decide) (by decide) (by decide) (by decide) (by decide))
  · exact congrArg (· / 64) (key ((8 - nI 3) * (8 - nI 3)) (2 * nI 3 * (8 - nI 3)) (nI 3 * nI 3) (by decide) (by decide) (by decide) (by decide) (by decide) (by decide))
  · exact congrArg (· / 64) (key ((8 - nI 4) * (8 - nI 4)) (2 * nI 4 * (8 - nI 4)) (nI 4 * nI 4) (by decide) (by decide) (by decide) (by decide) (by decide) (by decide))
  · exact congrArg (· / 64) (key ((8 - nI 5) * (8 - nI 5)) (2 * nI 5 * (8 - nI 5)) (nI 5 * nI 5) (by decide) (by decide) (by decide) (by decide) (by decide) (by decide))
  · exact congrArg (· / 64) (key ((8 - nI 6) * (8 - nI 6)) (2 * nI 6 * (8 - nI 6)) (nI 6 * nI 6) (by decide) (by decide) (by decide) (by decide) (by decide) (by decide))
  · exact congrArg (· / 64) (key ((8 - nI 7) * (8 - nI 7)) (2 * nI 7 * (8 - nI 7)) (nI 7 * nI 7) (by decide) (by decide) (by decide) (by decide) (by decide) (by decide))
end NOD
