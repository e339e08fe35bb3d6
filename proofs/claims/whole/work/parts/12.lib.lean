/-! numbers: between Int32 and Int; places -/
theorem q_in {i : Int32} {n : Nat} (h0 : 0 ≤ i.toInt) (h1 : i.toInt < (n : Int)) : vp_in i n := by
  unfold vp_in
  rintro (h | h)
  · have := Int32.lt_iff_toInt_lt.mp h
    simp at this
    omega
  · have : i.toNatClampNeg = i.toInt.toNat := rfl
    omega
theorem q_of {x : Int32} (h : 0 ≤ x.toInt) : ∃ n : Nat, x = nI n ∧ n < 2 ^ 31 ∧ x.toInt = (n : Int) := by
  have hlt : x.toInt < 2 ^ 31 := Int32.toInt_lt x
  refine ⟨x.toInt.toNat, ?_, by omega, by omega⟩
  apply Int32.toInt_inj.mp
  rw [nI_toInt (by omega)]
  omega
theorem q_lt {x y : Int32} : x < y ↔ x.toInt < y.toInt := Int32.lt_iff_toInt_lt
theorem q_le {x y : Int32} : x ≤ y ↔ x.toInt ≤ y.toInt := Int32.le_iff_toInt_le
theorem q_eq {x y : Int32} : x = y ↔ x.toInt = y.toInt := Int32.toInt_inj.symm
theorem q_ltL {x y : Int64} : x < y ↔ x.toInt < y.toInt := Int64.lt_iff_toInt_lt
theorem q_i2l (x : Int32) : x.toInt64.toInt = x.toInt := by simp
theorem q_nI {n : Nat} (h : n < 2 ^ 31) : (nI n).toInt = (n : Int) := nI_toInt h
theorem q_inn {c N : Nat} (h : c < N) (hN : N < 2 ^ 31) : vp_in (nI c) N := nI_in h hN
theorem q_cl {n : Nat} (h : n < 2 ^ 31) : (nI n).toNatClampNeg = n := nI_clamp h
theorem q_rng (x : Int32) : -2147483648 ≤ x.toInt ∧ x.toInt < 2147483648 := ⟨Int32.le_toInt x, Int32.toInt_lt x⟩
/-- sums and differences that stay within -/
theorem q_add {x y : Int32} (h1 : -2147483648 ≤ x.toInt + y.toInt) (h2 : x.toInt + y.toInt < 2147483648) : (x + y).toInt = x.toInt + y.toInt := by
  rw [Int32.toInt_add]
  exact Int.bmod_eq_of_le (by omega) (by omega)
theorem q_sub {x y : Int32} (h1 : -2147483648 ≤ x.toInt - y.toInt) (h2 : x.toInt - y.toInt < 2147483648) : (x - y).toInt = x.toInt - y.toInt := by
  rw [Int32.toInt_sub]
  exact Int.bmod_eq_of_le (by omega) (by omega)
theorem q_mul {x y : Int32} (h1 : -2147483648 ≤ x.toInt * y.toInt) (h2 : x.toInt * y.toInt < 2147483648) : (x * y).toInt = x.toInt * y.toInt := by
  rw [Int32.toInt_mul]
  exact Int.bmod_eq_of_le (by omega) (by omega)
theorem q_neg {x : Int32} (h1 : x.toInt ≠ -2147483648) : (-x).toInt = -x.toInt := by
  rw [Int32.toInt_neg]
  have := q_rng x
  exact Int.bmod_eq_of_le (by omega) (by omega)
theorem q_ladd {x y : Int64} (h1 : -9223372036854775808 ≤ x.toInt + y.toInt) (h2 : x.toInt + y.toInt < 9223372036854775808) : (x + y).toInt = x.toInt + y.toInt := by
  rw [Int64.toInt_add]
  exact Int.bmod_eq_of_le (by omega) (by omega)
theorem q_lsub {x y : Int64} (h1 : -9223372036854775808 ≤ x.toInt - y.toInt) (h2 : x.toInt - y.toInt < 9223372036854775808) : (x - y).toInt = x.toInt - y.toInt := by
  rw [Int64.toInt_sub]
  exact Int.bmod_eq_of_le (by omega) (by omega)
theorem q_lmul {x y : Int64} (h1 : -9223372036854775808 ≤ x.toInt * y.toInt) (h2 : x.toInt * y.toInt < 9223372036854775808) : (x * y).toInt = x.toInt * y.toInt := by
  rw [Int64.toInt_mul]
  exact Int.bmod_eq_of_le (by omega) (by omega)
theorem q_nadd {a b : Nat} : nI a + nI b = nI (a + b) := by
  simp [nI, Int32.ofNat_add]
theorem q_nmul {a b : Nat} : nI a * nI b = nI (a * b) := by
  simp [nI, Int32.ofNat_mul]
theorem q_lit (n : Nat) : (OfNat.ofNat n : Int32) = nI n := rfl
/-- lookups -/
theorem zI_s {I : z_I} {k j : Nat} {v : Int32} : zI I k j v k j = v := by simp [zI]
theorem zI_d {I : z_I} {k j a b : Nat} {v : Int32} (h : ¬ (a = k ∧ b = j)) : zI I k j v a b = I a b := by
  unfold zI
  split
  · rename_i h1; subst h1
    have : b ≠ j := fun q => h ⟨rfl, q⟩
    simp [this]
  · rfl
theorem zI_r {I : z_I} {k j a : Nat} {v : Int32} (h : a ≠ k) : zI I k j v a = I a := zI_ne h
theorem zI_v {I : z_I} {k j a b : Nat} {v : Int32} : zI I k j v a b = if a = k ∧ b = j then v else I a b := by
  by_cases h : a = k ∧ b = j
  · obtain ⟨rfl, rfl⟩ := h; simp [zI]
  · rw [if_neg h, zI_d h]
def bI (p : Prop) [Decidable p] : Int32 := if p then 1 else 0
theorem bI_t {p : Prop} [Decidable p] (h : p) : bI p = 1 := if_pos h
theorem bI_f {p : Prop} [Decidable p] (h : ¬ p) : bI p = 0 := if_neg h
theorem bI_0 {p : Prop} [Decidable p] : bI p = 0 ↔ ¬ p := by unfold bI; by_cases h : p <;> simp [h]
theorem bI_b {p : Prop} [Decidable p] : z_b (bI p) := by unfold bI z_b; by_cases h : p <;> simp [h]
