/-! a season: cuts as the digits of a number, the first marker's digit first -/
def tlS (f : Nat → Nat) (k : Nat) : Nat → Nat → Nat
  | 0, _ => 0
  | j + 1, N => tlS f k j (N / 10) + N % 10 * f (k + j)
def dgS : Nat → Nat → Nat → Nat
  | 0, _, _ => 0
  | l + 1, n, m => if m = l then n % 10 else dgS l (n / 10) m
section SNS
variable {f w : Nat → Nat} {c : Nat → Nat → Nat} {o : Nat → Nat} {M k j N lack : Nat}
theorem tl_split : ∀ j N, tlS f 0 (k + j) N = tlS f 0 k (N / 10 ^ j) + tlS f k j N := by
  intro j
  induction j with
  | zero => intro N; show tlS f 0 k N = tlS f 0 k (N / 10 ^ 0) + 0; rw [Nat.pow_zero, Nat.div_one]; rfl
  | succ j ih =>
    intro N
    show tlS f 0 (k + j) (N / 10) + N % 10 * f (0 + (k + j)) = tlS f 0 k (N / 10 ^ (j + 1)) + (tlS f k j (N / 10) + N % 10 * f (k + j))
    rw [ih, Nat.div_div_eq_div_mul, show 10 * 10 ^ j = 10 ^ (j + 1) by rw [Nat.pow_succ, Nat.mul_comm], Nat.zero_add, Nat.add_assoc]
theorem tl_b {B : Nat} : ∀ j N, (∀ m, k ≤ m → m < k + j → f m ≤ B) → tlS f k j N ≤ 9 * B * j := by
  intro j
  induction j with
  | zero => intro N _; exact Nat.zero_le _
  | succ j ih =>
    intro N h
    have a := ih (N / 10) (fun m h1 h2 => h m h1 (by omega))
    have b := h (k + j) (by omega) (by omega)
    have m : N % 10 * f (k + j) ≤ 9 * B := Nat.mul_le_mul (by omega) b
    show tlS f k j (N / 10) + N % 10 * f (k + j) ≤ 9 * B * (j + 1)
    rw [Nat.mul_succ]; omega
/-- what can be made at most -/
def mdeS (f : Nat → Nat) (k : Nat) : Nat → Nat
  | 0 => 0
  | j + 1 => mdeS f k j + f (k + j) * 9
theorem mde_le : ∀ j N, tlS f k j N ≤ mdeS f k j := by
  intro j
  induction j with
  | zero => intro N; exact Nat.le_refl _
  | succ j ih =>
    intro N
    have a := ih (N / 10)
    have m : N % 10 * f (k + j) ≤ 9 * f (k + j) := Nat.mul_le_mul (by omega) (Nat.le_refl _)
    show tlS f k j (N / 10) + N % 10 * f (k + j) ≤ mdeS f k j + f (k + j) * 9
    omega
/-- the cheapest -/
def chpS (w f : Nat → Nat) (lack k : Nat) : Nat → Nat
  | 0 => 1000000000
  | j + 1 => if f (k + j) = 0 then chpS w f lack k j else if (lack * w (k + j) + f (k + j) - 1) / f (k + j) < chpS w f lack k j then (lack * w (k + j) + f (k + j) - 1) / f (k + j) else chpS w f lack k j
def lfS (w f : Nat → Nat) (lack k j : Nat) : Nat := if mdeS f k j < lack then 1000000000 else chpS w f lack k j
theorem chp_le : ∀ j m, k ≤ m → m < k + j → 0 < f m → chpS w f lack k j ≤ (lack * w m + f m - 1) / f m := by
  intro j
  induction j with
  | zero => intro m h1 h2; omega
  | succ j ih =>
    intro m h1 h2 h3
    unfold chpS
    by_cases e : m = k + j
    · subst e
      rw [if_neg (by omega)]
      split <;> omega
    · have := ih m h1 (by omega) h3
      split
      · exact this
      · split <;> omega
theorem chp_no (B : Nat) (hc : ∀ m, k ≤ m → m < k + j → 0 < f m → B * f m < lack * w m) : ∀ i N, i ≤ j → B * tlS f k i N + (if 0 < tlS f k i N then 1 else 0) ≤ lack * tlS w k i N := by
  intro i
  induction i with
  | zero => intro N _; show B * 0 + (if 0 < 0 then 1 else 0) ≤ lack * 0; simp
  | succ i ih =>
    intro N hi
    have a := ih (N / 10) (by omega)
    show B * (tlS f k i (N / 10) + N % 10 * f (k + i)) + (if 0 < tlS f k i (N / 10) + N % 10 * f (k + i) then 1 else 0) ≤ lack * (tlS w k i (N / 10) + N % 10 * w (k + i))
    rw [Nat.mul_add, Nat.mul_add]
    by_cases hy : N % 10 = 0 ∨ f (k + i) = 0
    · have z : N % 10 * f (k + i) = 0 := by rcases hy with h | h <;> rw [h] <;> simp
      rw [z, Nat.mul_zero, Nat.add_zero, Nat.add_zero]
      exact Nat.le_trans a (Nat.le_add_right _ _)
    · have h1 : 0 < N % 10 := Nat.pos_of_ne_zero (fun z => hy (Or.inl z))
      have h2 : 0 < f (k + i) := Nat.pos_of_ne_zero (fun z => hy (Or.inr z))
      have h3 := hc (k + i) (by omega) (by omega) h2
      have h4 : N % 10 * (B * f (k + i) + 1) ≤ N % 10 * (lack * w (k + i)) := Nat.mul_le_mul (Nat.le_refl _) h3
      have e1 : B * (N % 10 * f (k + i)) = N % 10 * (B * f (k + i)) := by rw [Nat.mul_left_comm]
      have e2 : lack * (N % 10 * w (k + i)) = N % 10 * (lack * w (k + i)) := by rw [Nat.mul_left_comm]
      rw [Nat.mul_add, Nat.mul_one] at h4
      rw [e1, e2]
      have h5 : (if 0 < tlS f k i (N / 10) + N % 10 * f (k + i) then 1 else 0) ≤ 1 := by split <;> omega
      have h6 : B * tlS f k i (N / 10) ≤ lack * tlS w k i (N / 10) := Nat.le_trans (Nat.le_add_right _ _) a
      generalize (if 0 < tlS f k i (N / 10) + N % 10 * f (k + i) then 1 else 0) = u at *
      omega
/-- none that is met takes less -/
theorem lf_ok (hl : 0 < lack) (hm : lack ≤ tlS f k j N) : lfS w f lack k j ≤ tlS w k j N := by
  unfold lfS
  have := mde_le (f := f) (k := k) j N
  rw [if_neg (by omega)]
  refine Classical.byContradiction (fun n => ?_)
  have hB := Nat.lt_of_not_le n
  have hc : ∀ m, k ≤ m → m < k + j → 0 < f m → tlS w k j N * f m < lack * w m := by
    intro m h1 h2 h3
    have := chp_le (w := w) (f := f) (lack := lack) j m h1 h2 h3
    have h4 : tlS w k j N < (lack * w m + f m - 1) / f m := Nat.lt_of_lt_of_le hB this
    have h5 := (Nat.le_div_iff_mul_le h3).mp h4
    rw [Nat.succ_mul] at h5
    omega
  have h := chp_no (w := w) (f := f) (tlS w k j N) hc j N (Nat.le_refl _)
  rw [if_pos (by omega)] at h
  have h2 : tlS w k j N * lack ≤ tlS w k j N * tlS f k j N := Nat.mul_le_mul (Nat.le_refl _) hm
  rw [Nat.mul_comm lack] at h
  omega
/-- for all sizes -/
def lmS (w : Nat → Nat) (c : Nat → Nat → Nat) (o : Nat → Nat) (k j p : Nat) : Nat → Nat
  | 0 => 0
  | s + 1 => if tlS (fun m => c m s) 0 k p < o s then (if lmS w c o k j p s < lfS w (fun m => c m s) (o s - tlS (fun m => c m s) 0 k p) k j then lfS w (fun m => c m s) (o s - tlS (fun m => c m s) 0 k p) k j else lmS w c o k j p s) else lmS w c o k j p s
abbrev metS (c : Nat → Nat → Nat) (o : Nat → Nat) (M n : Nat) : Prop := ∀ s, s < 5 → o s ≤ tlS (fun m => c m s) 0 M n
theorem lm_ok (hm : metS c o (k + j) N) : ∀ s, s ≤ 5 → lmS w c o k j (N / 10 ^ j) s ≤ tlS w k j N := by
  intro s
  induction s with
  | zero => intro _; exact Nat.zero_le _
  | succ s ih =>
    intro hs
    have a := ih (by omega)
    have b := hm s (by omega)
    rw [tl_split] at b
    unfold lmS
    split
    · split
      · exact lf_ok (by omega) (by omega)
      · exact a
    · exact a
/-- the best so far: how much cloth, and which cuts -/
def snT (w : Nat → Nat) (c : Nat → Nat → Nat) (o : Nat → Nat) (M n : Nat) (b : Nat × Nat) : Nat × Nat := if metS c o M n ∧ tlS w 0 M n < b.1 then (tlS w 0 M n, n) else b
def rngS (w : Nat → Nat) (c : Nat → Nat → Nat) (o : Nat → Nat) (M lo len : Nat) (b : Nat × Nat) : Nat × Nat := fld (fun j b => snT w c o M (lo + j) b) len b
theorem rng_id {b : Nat × Nat} {lo : Nat} : ∀ len, (∀ j, j < len → metS c o M (lo + j) → b.1 ≤ tlS w 0 M (lo + j)) → rngS w c o M lo len b = b := by
  intro len
  induction len with
  | zero => intro _; rfl
  | succ len ih =>
    intro h
    show snT w c o M (lo + len) (rngS w c o M lo len b) = b
    rw [ih (fun j hj => h j (by omega))]
    unfold snT
    refine if_neg (fun z => ?_)
    have := h len (by omega) z.1
    omega
theorem rng_add {b : Nat × Nat} {lo a : Nat} : ∀ l, rngS w c o M lo (a + l) b = rngS w c o M (lo + a) l (rngS w c o M lo a b) := by
  intro l
  induction l with
  | zero => rfl
  | succ l ih =>
    show snT w c o M (lo + (a + l)) (rngS w c o M lo (a + l) b) = snT w c o M (lo + a + l) (rngS w c o M (lo + a) l (rngS w c o M lo a b))
    rw [ih, Nat.add_assoc]
theorem rng_le {b : Nat × Nat} {lo : Nat} : ∀ l, (rngS w c o M lo l b).1 ≤ b.1 := by
  intro l
  induction l with
  | zero => exact Nat.le_refl _
  | succ l ih =>
    refine Nat.le_trans ?_ ih
    show (snT w c o M (lo + l) (rngS w c o M lo l b)).1 ≤ _
    unfold snT
    split
    · rename_i z; exact Nat.le_of_lt z.2
    · exact Nat.le_refl _
/-- a part that can be left -/
theorem rng_pr {b : Nat × Nat} {p : Nat} (h : b.1 ≤ tlS w 0 k p + lmS w c o k j p 5) : rngS w c o (k + j) (p * 10 ^ j) (10 ^ j) b = b := by
  refine rng_id _ (fun i hi hm => ?_)
  have hd : (p * 10 ^ j + i) / 10 ^ j = p := by
    rw [Nat.mul_comm, Nat.mul_add_div (Nat.pow_pos (by omega)), Nat.div_eq_of_lt hi, Nat.add_zero]
  have a := lm_ok (w := w) hm 5 (Nat.le_refl _)
  rw [tl_split, hd]
  rw [hd] at a
  omega
end SNS
