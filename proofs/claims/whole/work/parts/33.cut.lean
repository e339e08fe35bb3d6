section CUT
variable {n0 d dr dd : Nat} {K : z_K} {I : z_I} {L : z_L} {P : z_I → z_L → Prop} {Q : z_q}
theorem q_d100 {u q : Int32} (h1 : -2147483647 ≤ u.toInt * q.toInt) (h2 : u.toInt * q.toInt < 2147483648) : (u * q) / 100 = ((u.toInt64 * q.toInt64) / 100 : Int64).toInt32 := by
  refine q_eq.mpr ?_
  have hm : (u.toInt64 * q.toInt64).toInt = u.toInt * q.toInt := by
    rw [q_lmul (by rw [q_i2l, q_i2l]; omega) (by rw [q_i2l, q_i2l]; omega), q_i2l, q_i2l]
  rw [Int32.toInt_div_of_ne_right _ _ (by decide), q_mul (by omega) h2, Int64.toInt_toInt32, Int64.toInt_div_of_ne_right _ _ (by decide), hm]
  show (u.toInt * q.toInt).tdiv 100 = ((u.toInt * q.toInt).tdiv 100).bmod (2 ^ 32)
  generalize u.toInt * q.toInt = w at h1 h2
  have hle : (w.tdiv 100).natAbs ≤ w.natAbs := by rw [Int.natAbs_tdiv]; exact Nat.div_le_self _ _
  exact (Int.bmod_eq_of_le (by omega) (by omega)).symm
/-- the length to cut for n and a rest of m in the hundred -/
def cutN (n m : Nat) : Nat := (100 * n + m - 1) / m
theorem q_cutN {n m : Nat} (hn : n ≤ 99999) (h1 : 1 ≤ m) (hm : m ≤ 100) : (100 * nI n + nI m - 1) / nI m = nI (cutN n m) ∧ cutN n m * m ≤ 10000000 ∧ cutN n m ≤ 10000000 := by
  have hc : cutN n m * m ≤ 100 * n + m - 1 := Nat.div_mul_le_self _ _
  have hc2 : cutN n m ≤ 100 * n + m - 1 := Nat.div_le_self _ _
  refine ⟨?_, by omega, by omega⟩
  obtain ⟨k, rfl⟩ : ∃ k, m = k + 1 := ⟨m - 1, by omega⟩
  rw [show (100 : Int32) = nI 100 from rfl, q_nmul, q_nadd, show 100 * n + (k + 1) = (100 * n + k) + 1 by omega, nI_pred, q_ndiv (by omega) (by omega)]
  rfl
theorem q_absx {x : Int32} : (if 0 ≤ x then x else 0 - x) = (if x < 0 then -x else x) := by
  by_cases h : x < 0
  · rw [if_pos h, if_neg (fun z => by have := q_lt.mp h; have := q_le.mp z; omega)]
    simp
  · rw [if_neg h, if_pos (q_le.mpr (by have := mt q_lt.mpr h; omega))]
theorem q_cutb {x q : Int32} (hx1 : -99999 ≤ x.toInt) (hx2 : x.toInt ≤ 99999) (hq1 : 1 ≤ q.toInt) (hq2 : q.toInt ≤ 100) :
    (if x < 0 then (-((((100 * (if x < 0 then (-x) else x)) + q) - 1) / q)) else ((((100 * (if x < 0 then (-x) else x)) + q) - 1) / q)).toInt * q.toInt ≤ 10000000 ∧ -10000000 ≤ (if x < 0 then (-((((100 * (if x < 0 then (-x) else x)) + q) - 1) / q)) else ((((100 * (if x < 0 then (-x) else x)) + q) - 1) / q)).toInt * q.toInt := by
  obtain ⟨m, rfl, hm1, em⟩ := q_of (show 0 ≤ q.toInt by omega)
  have c0 : (0 : Int32).toInt = 0 := rfl
  by_cases h : x < 0
  · simp only [if_pos h]
    have hl := q_lt.mp h
    have hng : (-x).toInt = -x.toInt := q_neg (by omega)
    obtain ⟨n, en, hn1, en2⟩ := q_of (x := -x) (by omega)
    obtain ⟨e1, e2, e3⟩ := q_cutN (n := n) (m := m) (by omega) (by omega) (by omega)
    have ec : (nI (cutN n m)).toInt = (cutN n m : Int) := q_nI (by omega)
    rw [en, e1, q_neg (by omega), ec, em]
    have : ((cutN n m * m : Nat) : Int) = (cutN n m : Int) * (m : Int) := Int.natCast_mul _ _
    rw [Int.neg_mul, ← this]
    omega
  · simp only [if_neg h]
    have hl := mt q_lt.mpr h
    obtain ⟨n, rfl, hn1, en2⟩ := q_of (x := x) (by omega)
    obtain ⟨e1, e2, e3⟩ := q_cutN (n := n) (m := m) (by omega) (by omega) (by omega)
    have ec : (nI (cutN n m)).toInt = (cutN n m : Int) := q_nI (by omega)
    rw [e1, ec, em]
    have : ((cutN n m * m : Nat) : Int) = (cutN n m : Int) * (m : Int) := Int.natCast_mul _ _
    rw [← this]
    omega
theorem c13_in_1 {p : Int32} (hM : MLay K) (hq : Q (some (.int (bI (0 ≤ p.toInt ∧ p.toInt ≤ 1)))) I L) : RM0 n0 xX13_in d [.long p.toInt64, .long 0, .long 1] K I L Q := by
  refine c13_in hM ?_
  rw [bI_c (q := 0 ≤ p.toInt ∧ p.toInt ≤ 1) (by rw [q_i2l]; show (0 ≤ _ ∧ _ ≤ 1) ↔ _; omega)]
  exact hq
theorem op_cut {x a m : Int32} (hC : CLay K) (hM : MLay K) (he : ∀ i, i < 6 → I 26 i = I 113 i) (hq : ∀ i, 4 ≤ i → i < 6 → 0 ≤ (I 113 i).toInt ∧ (I 113 i).toInt ≤ 99) (hr : ∀ k, 1 ≤ k → k ≤ 7 → P (rfI I k) L) (hs : P I L) : Op0 n0 xX12_cut xX13_cut (d + 2) (d + 2) [.int x, .int a, .int m] K I L P := by
  have c0 : (0 : Int32).toInt = 0 := rfl
  have c1 : (1 : Int32).toInt = 1 := rfl
  have c2 : (100 : Int32).toInt = 100 := rfl
  have c3 : (99999 : Int32).toInt = 99999 := rfl
  have c4 : (-99999 : Int32).toInt = -99999 := rfl
  refine wp_X12_cut hC (c12_isAxis hC ⟨_, rfl, ?_⟩)
  by_cases ga : 0 ≤ a.toInt ∧ a.toInt ≤ 1
  · rw [bI_t ga]
    have hba : bI (0 ≤ a.toInt ∧ a.toInt ≤ 1) = 1 := bI_t ga
    refine iq (by decide) (c12_outside hC ⟨_, rfl, ?_⟩)
    rcases bnd_cases x (-99999) 99999 with ⟨e, g⟩ | ⟨e, g0, g⟩ | ⟨e, g0, g⟩
    · rw [e]
      refine iq (by decide) (op_rfA 4 hC (by omega) (by omega) rfl (wp_X13_cut hM (c13_in_1 hM ⟨_, rfl, ?_⟩)))
      rw [hba]
      refine iq (by decide) (c13_bounds hM ⟨_, rfl, ?_⟩)
      rw [e]
      refine ip (by decide) (c13_bounds hM ⟨_, rfl, ?_⟩)
      rw [e]
      exact op_rrA 4 hM (by omega) rfl (hr 4 (by omega) (by omega))
    · rw [e]
      refine iq (by decide) (op_rfA 6 hC (by omega) (by omega) rfl (wp_X13_cut hM (c13_in_1 hM ⟨_, rfl, ?_⟩)))
      rw [hba]
      refine iq (by decide) (c13_bounds hM ⟨_, rfl, ?_⟩)
      rw [e]
      refine ip (by decide) (c13_bounds hM ⟨_, rfl, ?_⟩)
      rw [e]
      exact op_rrA 6 hM (by omega) rfl (hr 6 (by omega) (by omega))
    · rw [e]
      obtain ⟨k, rfl, hk1, ek⟩ := q_of ga.1
      have e4 : (4 : Int32) + nI k = nI (4 + k) := by rw [show (4 : Int32) = nI 4 from rfl, q_nadd]
      rw [e4, q_cl (by omega), he (4 + k) (by omega)]
      have hv := hq (4 + k) (by omega) (by omega)
      have hqv : (100 - I 113 (4 + k)).toInt = 100 - (I 113 (4 + k)).toInt := by rw [q_sub (by omega) (by omega), c2]
      generalize hg : 100 - I 113 (4 + k) = q at hqv ⊢
      have hqn : ¬ q = 0 := fun z => by have := q_eq.mp z; omega
      refine ip rfl ⟨q_inn (by omega) (by omega), iq (fun z => by have := q_lt.mp z; omega) ⟨hqn, _, rfl, wp_X13_cut hM (c13_in_1 hM ⟨_, rfl, ?_⟩)⟩⟩
      rw [hba]
      refine iq (by decide) (c13_bounds hM ⟨_, rfl, ?_⟩)
      rw [e, e4, q_cl (by omega), hg]
      refine iq (by decide) ⟨q_inn (by omega) (by omega), hqn, ?_, hs⟩
      obtain ⟨b1, b2⟩ := q_cutb (x := x) (q := q) (by omega) (by omega) (by omega) (by omega)
      rw [q_absx, Int32.mul_comm (if x < 0 then -x else x) 100, q_d100 (by omega) (by omega)]
  · rw [bI_f ga]
    refine ip rfl (op_rfA 2 hC (by omega) (by omega) rfl (wp_X13_cut hM (c13_in_1 hM ⟨_, rfl, ?_⟩)))
    rw [bI_f ga]
    exact ip rfl (op_rrA 2 hM (by omega) rfl (hr 2 (by omega) (by omega)))
end CUT
