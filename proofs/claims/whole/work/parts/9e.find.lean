/-- the corners, moved and doubled -/
def vtD (W : Nat → Int32 × Int32) (N M k : Nat) : Int32 × Int32 := (2 * ((vtx W N k).1 - mnV (fun q => (vtx W N q).1) M), 2 * ((vtx W N k).2 - mnV (fun q => (vtx W N q).2) M))
def vkB (W : Nat → Int32 × Int32) (N M : Nat) (a b : Int) (k : Nat) : Bool := decide (k ≠ N) && ckB (vtD W N M k).1.toInt (vtD W N M k).2.toInt (vtD W N M (k + 1)).1.toInt (vtD W N M (k + 1)).2.toInt a b
/-- a cell is within -/
def clB (W : Nat → Int32 × Int32) (N M : Nat) (s : Int32) (i j : Nat) : Bool := insN (vkB W N M ((2 * (i : Int) + 1) * s.toInt) ((2 * (j : Int) + 1) * s.toInt)) (M - 1)
/-- it is too wide or too high -/
def wdB (W : Nat → Int32 × Int32) (N M : Nat) (s : Int32) : Bool := decide (24 * s < mxV (fun q => (vtx W N q).1) M - mnV (fun q => (vtx W N q).1) M) || decide (24 * s < mxV (fun q => (vtx W N q).2) M - mnV (fun q => (vtx W N q).2) M)
section FND
variable {n0 d : Nat} {K : z_K} {I : z_I} {L : z_L} {Q : z_q} {N M : Nat} {W : Nat → Int32 × Int32} {s : Int32}
theorem mnV_c {f f' : Nat → Int32} (h : ∀ q, q < M → f' q = f q) (h1 : 1 ≤ M) : ∀ k, k ≤ M → mnV f' k = mnV f k := by
  intro k
  induction k with
  | zero => intro _; exact h 0 (by omega)
  | succ k ih =>
    intro hk
    show (if f' k < mnV f' k then f' k else mnV f' k) = (if f k < mnV f k then f k else mnV f k)
    rw [ih (by omega), h k (by omega)]
theorem mxV_c {f f' : Nat → Int32} (h : ∀ q, q < M → f' q = f q) (h1 : 1 ≤ M) : ∀ k, k ≤ M → mxV f' k = mxV f k := by
  intro k
  induction k with
  | zero => intro _; exact h 0 (by omega)
  | succ k ih =>
    intro hk
    show (if mxV f' k < f' k then f' k else mxV f' k) = (if mxV f k < f k then f k else mxV f k)
    rw [ih (by omega), h k (by omega)]
theorem mnV_e {f : Nat → Int32} : ∀ k, ∃ q, (q < k ∨ q = 0) ∧ mnV f k = f q := by
  intro k
  induction k with
  | zero => exact ⟨0, Or.inr rfl, rfl⟩
  | succ k ih =>
    obtain ⟨q, hq, e⟩ := ih
    show ∃ q, _ ∧ (if f k < mnV f k then f k else mnV f k) = f q
    by_cases c : f k < mnV f k
    · rw [if_pos c]; exact ⟨k, Or.inl (by omega), rfl⟩
    · rw [if_neg c]; exact ⟨q, by omega, e⟩
/-- bounds of the corners -/
theorem vtx_b (hN : 1 ≤ N) (hw : ∀ k, k < N → (-2000000 ≤ (W k).1.toInt ∧ (W k).1.toInt ≤ 2000000) ∧ (-2000000 ≤ (W k).2.toInt ∧ (W k).2.toInt ≤ 2000000)) (k : Nat) : (-6000000 ≤ (vtx W N k).1.toInt ∧ (vtx W N k).1.toInt ≤ 6000000) ∧ (-6000000 ≤ (vtx W N k).2.toInt ∧ (vtx W N k).2.toInt ≤ 6000000) := by
  have hc : ∀ k, (-2000000 ≤ (cWk W N k).1.toInt ∧ (cWk W N k).1.toInt ≤ 2000000) ∧ (-2000000 ≤ (cWk W N k).2.toInt ∧ (cWk W N k).2.toInt ≤ 2000000) := by
    intro k
    unfold cWk
    split
    · rename_i c; exact hw k c
    · exact hw 0 (by omega)
  have w0 := hw 0 (by omega)
  unfold vtx
  split
  · have := hc k; omega
  · have := hc (k - (N + 1))
    have e2 : (2 : Int32).toInt = 2 := rfl
    have m2 : (2 * (W 0).1).toInt = 2 * (W 0).1.toInt := by rw [q_mul (by rw [e2]; omega) (by rw [e2]; omega), e2]
    have m3 : (2 * (W 0).1 - (cWk W N (k - (N + 1))).1).toInt = 2 * (W 0).1.toInt - (cWk W N (k - (N + 1))).1.toInt := by rw [q_sub (by rw [m2]; omega) (by rw [m2]; omega), m2]
    show (-6000000 ≤ (2 * (W 0).1 - (cWk W N (k - (N + 1))).1).toInt ∧ (2 * (W 0).1 - (cWk W N (k - (N + 1))).1).toInt ≤ 6000000) ∧ (-6000000 ≤ (cWk W N (k - (N + 1))).2.toInt ∧ (cWk W N (k - (N + 1))).2.toInt ≤ 6000000)
    rw [m3]
    omega
theorem vtD_b (hN : 1 ≤ N) (hw : ∀ k, k < N → (-2000000 ≤ (W k).1.toInt ∧ (W k).1.toInt ≤ 2000000) ∧ (-2000000 ≤ (W k).2.toInt ∧ (W k).2.toInt ≤ 2000000)) (k : Nat) : ckW (vtD W N M k).1 ∧ ckW (vtD W N M k).2 := by
  obtain ⟨q1, _, e1⟩ := mnV_e (f := fun q => (vtx W N q).1) M
  obtain ⟨q2, _, e2⟩ := mnV_e (f := fun q => (vtx W N q).2) M
  have b0 := vtx_b hN hw k
  have b1 := vtx_b hN hw q1
  have b2 := vtx_b hN hw q2
  have t2 : (2 : Int32).toInt = 2 := rfl
  unfold vtD
  rw [e1, e2]
  have m1 : ((vtx W N k).1 - (vtx W N q1).1).toInt = (vtx W N k).1.toInt - (vtx W N q1).1.toInt := q_sub (by omega) (by omega)
  have m2 : ((vtx W N k).2 - (vtx W N q2).2).toInt = (vtx W N k).2.toInt - (vtx W N q2).2.toInt := q_sub (by omega) (by omega)
  unfold ckW
  show (-100000000 ≤ (2 * ((vtx W N k).1 - (vtx W N q1).1)).toInt ∧ (2 * ((vtx W N k).1 - (vtx W N q1).1)).toInt ≤ 100000000) ∧ (-100000000 ≤ (2 * ((vtx W N k).2 - (vtx W N q2).2)).toInt ∧ (2 * ((vtx W N k).2 - (vtx W N q2).2)).toInt ≤ 100000000)
  rw [q_mul (by rw [t2, m1]; omega) (by rw [t2, m1]; omega), q_mul (by rw [t2, m2]; omega) (by rw [t2, m2]; omega), t2, m1, m2]
  omega
theorem insN_c {f f' : Nat → Bool} : ∀ n, (∀ k, k < n → f' k = f k) → insN f' n = insN f n := by
  intro n
  induction n with
  | zero => intro _; rfl
  | succ n ih =>
    intro h
    show (insN f' n ^^ f' n) = (insN f n ^^ f n)
    rw [ih (fun k hk => h k (by omega)), h n (by omega)]
end FND
