/-! the crossing, over whole numbers -/
def ckB (x y u v a b : Int) : Bool := decide (¬ ((b < y) ↔ (b < v)) ∧ (if y < v then (a - x) * (v - y) < (u - x) * (b - y) else (u - x) * (b - y) < (a - x) * (v - y)))
section CKB
variable {n0 d : Nat} {K : z_K} {I : z_I} {L : z_L} {Q : z_q} {x y u v s : Int32} {i j : Nat}
theorem mul_b {a b : Int} {A B : Nat} (h1 : -(A : Int) ≤ a) (h2 : a ≤ A) (h3 : -(B : Int) ≤ b) (h4 : b ≤ B) : -((A * B : Nat) : Int) ≤ a * b ∧ a * b ≤ ((A * B : Nat) : Int) := by
  have e : (a * b).natAbs = a.natAbs * b.natAbs := Int.natAbs_mul a b
  have l : a.natAbs * b.natAbs ≤ A * B := Nat.mul_le_mul (by omega) (by omega)
  generalize a * b = c at e
  generalize a.natAbs * b.natAbs = f at e l
  generalize A * B = g at l
  omega
theorem q_m64 (a b : Int32) : (a.toInt64 * b.toInt64).toInt = a.toInt * b.toInt := by
  obtain ⟨a1, a2⟩ := q_rng a
  obtain ⟨b1, b2⟩ := q_rng b
  obtain ⟨c1, c2⟩ := mul_b (A := 2147483648) (B := 2147483648) a1 (by omega) b1 (by omega)
  rw [q_lmul (by rw [q_i2l, q_i2l]; omega) (by rw [q_i2l, q_i2l]; omega), q_i2l, q_i2l]
theorem preB_m {g : Nat → Bool} (h : ∀ i, g (i + 1) = true → g i = true) : ∀ i, preB g i = g i := by
  intro i
  induction i with
  | zero => rfl
  | succ i ih =>
    show (preB g i && g (i + 1)) = g (i + 1)
    rw [ih]
    cases e : g (i + 1) with
    | true => rw [h i e]; rfl
    | false => rw [Bool.and_false]
theorem one_ne {p q : Prop} [Decidable p] (h : p ↔ q) : ((if p then (1 : Int32) else 0) ≠ 0) ↔ q := by
  by_cases c : p
  · rw [if_pos c]; exact ⟨fun _ => h.mp c, fun _ => by decide⟩
  · rw [if_neg c]; exact ⟨fun w => absurd rfl w, fun w => absurd (h.mpr w) c⟩
/-- coordinates that stay within -/
def ckW (x : Int32) : Prop := -100000000 ≤ x.toInt ∧ x.toInt ≤ 100000000
theorem q_mid (h0 : 1 ≤ s.toInt) (h1 : s.toInt ≤ 100000) (hi : i < 24) : (((2 * nI i) + 1) * s).toInt = (2 * (i : Int) + 1) * s.toInt ∧ 0 ≤ (2 * (i : Int) + 1) * s.toInt ∧ (2 * (i : Int) + 1) * s.toInt ≤ 4700000 := by
  have e : (2 : Int32) * nI i + 1 = nI (2 * i + 1) := by rw [show (2 : Int32) = nI 2 from rfl, q_nmul, ← nI_succ]
  have e2 : (nI (2 * i + 1)).toInt = 2 * (i : Int) + 1 := by rw [q_nI (by omega)]; omega
  have lo : 0 ≤ (2 * (i : Int) + 1) * s.toInt := Int.mul_nonneg (by omega) (by omega)
  have hi' : (2 * (i : Int) + 1) * s.toInt ≤ 47 * 100000 := Int.mul_le_mul (by omega) (by omega) (by omega) (by omega)
  refine ⟨?_, lo, hi'⟩
  rw [e, q_mul (by rw [e2]; omega) (by rw [e2]; omega), e2]
theorem crB_ck (h0 : 1 ≤ s.toInt) (h1 : s.toInt ≤ 100000) (hx : ckW x) (hy : ckW y) (hu : ckW u) (hv : ckW v) (hi : i < 24) (hj : j < 24) :
    crB x y u v s i j = ckB x.toInt y.toInt u.toInt v.toInt ((2 * (i : Int) + 1) * s.toInt) ((2 * (j : Int) + 1) * s.toInt) := by
  obtain ⟨m1, m2, m3⟩ := q_mid h0 h1 hj
  unfold ckW at hx hy hu hv
  have du : (u - x).toInt = u.toInt - x.toInt := q_sub (by omega) (by omega)
  have dv : (v - y).toInt = v.toInt - y.toInt := q_sub (by omega) (by omega)
  have db : ((((2 * nI j) + 1) * s) - y).toInt = (2 * (j : Int) + 1) * s.toInt - y.toInt := by rw [q_sub (by rw [m1]; omega) (by rw [m1]; omega), m1]
  have gr : ∀ i, i < 24 → (grB x y u v s j i = true ↔ (if y.toInt < v.toInt then ((2 * (i : Int) + 1) * s.toInt - x.toInt) * (v.toInt - y.toInt) < (u.toInt - x.toInt) * ((2 * (j : Int) + 1) * s.toInt - y.toInt) else (u.toInt - x.toInt) * ((2 * (j : Int) + 1) * s.toInt - y.toInt) < ((2 * (i : Int) + 1) * s.toInt - x.toInt) * (v.toInt - y.toInt))) := by
    intro i hi
    obtain ⟨k1, k2, k3⟩ := q_mid h0 h1 hi
    have da : ((((2 * nI i) + 1) * s) - x).toInt = (2 * (i : Int) + 1) * s.toInt - x.toInt := by rw [q_sub (by rw [k1]; omega) (by rw [k1]; omega), k1]
    unfold grB
    rw [decide_eq_true_iff]
    unfold grI
    by_cases c : y < v
    · rw [if_pos c, if_pos (q_lt.mp c)]
      exact one_ne (by rw [q_ltL, q_m64, q_m64, da, dv, du, db])
    · rw [if_neg c, if_neg (fun z => c (q_lt.mpr z))]
      exact one_ne (by rw [q_ltL, q_m64, q_m64, da, dv, du, db])
  have pm : preB (grB x y u v s j) i = grB x y u v s j i := by
    have mono : ∀ k, k < 24 → ∀ k', k' + 1 = k → grB x y u v s j k = true → grB x y u v s j k' = true := by
      intro k hk k' hk' h
      have h2 := (gr k hk).mp h
      refine (gr k' (by omega)).mpr ?_
      have le : (2 * (k' : Int) + 1) * s.toInt - x.toInt ≤ (2 * (k : Int) + 1) * s.toInt - x.toInt := by
        have := Int.mul_le_mul_of_nonneg_right (show 2 * (k' : Int) + 1 ≤ 2 * (k : Int) + 1 by omega) (show 0 ≤ s.toInt by omega)
        omega
      by_cases c : y.toInt < v.toInt
      · rw [if_pos c] at h2 ⊢
        have := Int.mul_le_mul_of_nonneg_right le (show 0 ≤ v.toInt - y.toInt by omega)
        exact Int.lt_of_le_of_lt this h2
      · rw [if_neg c] at h2 ⊢
        have := Int.mul_le_mul_of_nonpos_right le (show v.toInt - y.toInt ≤ 0 by omega)
        exact Int.lt_of_lt_of_le h2 this
    have all : ∀ k, k < 24 → preB (grB x y u v s j) k = grB x y u v s j k := by
      intro k
      induction k with
      | zero => intro _; rfl
      | succ k ih =>
        intro hk
        show (preB (grB x y u v s j) k && grB x y u v s j (k + 1)) = grB x y u v s j (k + 1)
        rw [ih (by omega)]
        cases e : grB x y u v s j (k + 1) with
        | true => rw [mono (k + 1) hk k rfl e]; rfl
        | false => rw [Bool.and_false]
    exact all i hi
  unfold crB
  rw [pm, decide_eq_true hj, Bool.true_and]
  unfold ckB
  have cx : crX y v s j = decide (¬ (((2 * (j : Int) + 1) * s.toInt < y.toInt) ↔ ((2 * (j : Int) + 1) * s.toInt < v.toInt))) := by
    unfold crX
    have e1 : ((((2 * nI j) + 1) * s) < y) ↔ (2 * (j : Int) + 1) * s.toInt < y.toInt := by rw [q_lt, m1]
    have e2 : ((((2 * nI j) + 1) * s) < v) ↔ (2 * (j : Int) + 1) * s.toInt < v.toInt := by rw [q_lt, m1]
    refine decide_eq_decide.mpr ?_
    by_cases c1 : (((2 * nI j) + 1) * s) < y
    · rw [if_pos c1]
      by_cases c2 : (((2 * nI j) + 1) * s) < v
      · rw [if_pos c2]; exact ⟨fun w => absurd rfl w, fun w => absurd ⟨fun _ => e2.mp c2, fun _ => e1.mp c1⟩ w⟩
      · rw [if_neg c2]; exact ⟨fun _ z => c2 (e2.mpr (z.mp (e1.mp c1))), fun _ => by decide⟩
    · rw [if_neg c1]
      by_cases c2 : (((2 * nI j) + 1) * s) < v
      · rw [if_pos c2]; exact ⟨fun _ z => c1 (e1.mpr (z.mpr (e2.mp c2))), fun _ => by decide⟩
      · rw [if_neg c2]; exact ⟨fun w => absurd rfl w, fun w => absurd ⟨fun z => absurd (e1.mpr z) c1, fun z => absurd (e2.mpr z) c2⟩ w⟩
  rw [cx]
  have g := gr i hi
  by_cases c : grB x y u v s j i = true
  · rw [c, Bool.and_true]
    exact decide_eq_decide.mpr ⟨fun w => ⟨w, g.mp c⟩, fun w => w.1⟩
  · rw [show grB x y u v s j i = false by simpa using c, Bool.and_false]
    exact (decide_eq_false (fun w => c (g.mpr w.2))).symm
end CKB
