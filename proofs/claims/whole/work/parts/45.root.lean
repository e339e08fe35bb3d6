/-! roots -/
def isR (v r : Int64) : Prop := 0 ≤ r.toInt ∧ r.toInt * r.toInt ≤ v.toInt ∧ v.toInt < (r.toInt + 1) * (r.toInt + 1)
theorem sq_mono {a b : Int} (ha : 0 ≤ a) (h : a ≤ b) : a * a ≤ b * b := Int.mul_le_mul h h ha (by omega)
theorem isR_u {v r s : Int64} (h : isR v r) (h2 : isR v s) : r = s := by
  have key : ∀ a b : Int, 0 ≤ a → 0 ≤ b → a * a ≤ v.toInt → v.toInt < (b + 1) * (b + 1) → a ≤ b := by
    intro a b ha hb h1 h2
    refine Classical.byContradiction (fun hn => ?_)
    have := sq_mono (show (0 : Int) ≤ b + 1 by omega) (show b + 1 ≤ a by omega)
    omega
  have a1 := key _ _ h.1 h2.1 h.2.1 h2.2.2
  have a2 := key _ _ h2.1 h.1 h2.2.1 h.2.2
  exact Int64.toInt_inj.mp (by omega)
noncomputable def rtL (v : Int64) : Int64 := Classical.epsilon (isR v)
theorem rtL_e {v r : Int64} (h : isR v r) : rtL v = r := isR_u (Classical.epsilon_spec (p := isR v) ⟨r, h⟩) h
theorem nat_rt : ∀ n : Nat, ∃ k, k * k ≤ n ∧ n < (k + 1) * (k + 1) := by
  intro n
  induction n with
  | zero => exact ⟨0, by decide, by decide⟩
  | succ n ih =>
    obtain ⟨k, h1, h2⟩ := ih
    by_cases g : n + 1 < (k + 1) * (k + 1)
    · exact ⟨k, by omega, g⟩
    · have e : (k + 1 + 1) * (k + 1 + 1) = (k + 1) * (k + 1) + 2 * (k + 1) + 1 := by rw [Nat.add_mul (k + 1) 1, Nat.mul_add (k + 1) (k + 1) 1]; omega
      exact ⟨k + 1, by omega, by omega⟩
theorem rt_ex {x : Int64} (h0 : 0 ≤ x.toInt) (h1 : x.toInt ≤ 1000000) : ∃ r, isR x r := by
  obtain ⟨k, k1, k2⟩ := nat_rt x.toInt.toNat
  have hk : k ≤ 1000 := Classical.byContradiction (fun z => by
    have := Nat.mul_le_mul (show 1001 ≤ k by omega) (show 1001 ≤ k by omega)
    omega)
  have e : ((nI k).toInt64).toInt = (k : Int) := by rw [q_i2l, q_nI (by omega)]
  refine ⟨(nI k).toInt64, by rw [e]; omega, ?_, ?_⟩
  · rw [e]
    have : ((k * k : Nat) : Int) = (k : Int) * k := Int.natCast_mul k k
    omega
  · rw [e]
    have : (((k + 1) * (k + 1) : Nat) : Int) = ((k : Int) + 1) * (k + 1) := by rw [Int.natCast_mul, Int.natCast_add]; rfl
    omega
section RT
variable {n0 d : Nat} {K : z_K} {I : z_I} {L : z_L} {Q : z_q} {v : Int64}
theorem c13_rootOf_l (hM : MLay K) (hv : v.toInt < 4611686018427387904) (h : ∀ r, isR v r → Q (some (.long r)) I L) : ∀ w : Nat, ∀ lo hi : Int64, 0 ≤ lo.toInt → lo.toInt < hi.toInt → hi.toInt ≤ 3000000000 → hi.toInt - lo.toInt ≤ w → lo.toInt * lo.toInt ≤ v.toInt → v.toInt < hi.toInt * hi.toInt → Z n0 xX13_rootOf d 0 0 7 [(0, .long v), (2, .long lo), (4, .long hi)] [] K I L (z_q0 K Q) := by
  intro w
  induction w with
  | zero => intro lo hi h0 h1 h2 h3; omega
  | succ w ih =>
    intro lo hi h0 h1 h2 h3 h4 h5
    have es : (hi - lo).toInt = hi.toInt - lo.toInt := q_lsub (by omega) (by omega)
    have ea : (lo + hi).toInt = lo.toInt + hi.toInt := q_ladd (by omega) (by omega)
    have ed : ((lo + hi) / 2).toInt = (lo.toInt + hi.toInt) / 2 := by
      rw [Int64.toInt_div_of_ne_right _ _ (by decide), ea]
      show Int.tdiv _ 2 = _
      rw [Int.tdiv_eq_ediv_of_nonneg (by omega)]
    refine wp_X13_rootOf_7 hM ?_
    by_cases g : 1 < hi.toInt - lo.toInt
    · refine ip (q_ltL.mpr (by rw [es]; exact g)) ?_
      have m1 : lo.toInt < ((lo + hi) / 2).toInt := by rw [ed]; omega
      have m2 : ((lo + hi) / 2).toInt < hi.toInt := by rw [ed]; omega
      have m3 : ((lo + hi) / 2).toInt * ((lo + hi) / 2).toInt ≤ 3000000000 * 3000000000 := sq_mono (by omega) (by omega)
      have m4 : 0 ≤ ((lo + hi) / 2).toInt * ((lo + hi) / 2).toInt := Int.mul_nonneg (by omega) (by omega)
      have em : ((lo + hi) / 2 * ((lo + hi) / 2)).toInt = ((lo + hi) / 2).toInt * ((lo + hi) / 2).toInt := q_lmul (by omega) (by omega)
      by_cases g2 : v.toInt < ((lo + hi) / 2).toInt * ((lo + hi) / 2).toInt
      · exact ip (q_ltL.mpr (by rw [em]; exact g2)) (ih lo _ h0 m1 (by omega) (by omega) h4 g2)
      · exact iq (fun z => g2 (by have := q_ltL.mp z; rw [em] at this; exact this)) (ih _ hi (by omega) m2 h2 (by omega) (by omega) h5)
    · refine iq (fun z => g (by have := q_ltL.mp z; rw [es] at this; exact this)) (h lo ⟨h0, h4, ?_⟩)
      have : lo.toInt + 1 = hi.toInt := by omega
      rw [this]; exact h5
theorem c13_rootOf (hM : MLay K) (h0 : 0 ≤ v.toInt) (hv : v.toInt < 4611686018427387904) (h : ∀ r, isR v r → Q (some (.long r)) I L) : RM0 n0 xX13_rootOf d [.long v] K I L Q := by
  refine wp_X13_rootOf hM (c13_rootOf_l hM hv h 3000000000 0 3000000000 (by decide) (by decide) (by decide) (by decide) ?_ ?_)
  · show (0 : Int) * 0 ≤ _
    omega
  · show _ < (3000000000 : Int) * 3000000000
    omega
def btL (j : Nat) : Int64 := Int64.ofNat (2 ^ 30 / 2 ^ j)
theorem btL_s : ∀ j, j < 31 → ((btL j) >>> ((1 : Int32).toInt64 &&& 63 : Int64)) = btL (j + 1) := by decide
theorem btL_p : ∀ j, j < 31 → (btL j).toInt = 2 ^ (30 - j) ∧ 2 ^ (31 - j) = 2 * (btL j).toInt := by decide
theorem btL_z : btL 31 = 0 := by decide
theorem c12_rootOf_l (hC : CLay K) (hv : v.toInt < 4611686018427387904) (h : ∀ r, isR v r → Q (some (.long r)) I L) : ∀ w j, j + w = 31 → ∀ r : Int64, 0 ≤ r.toInt → r.toInt + 2 ^ (31 - j) ≤ 2147483648 → r.toInt * r.toInt ≤ v.toInt → v.toInt < (r.toInt + 2 ^ (31 - j)) * (r.toInt + 2 ^ (31 - j)) → Z n0 xX12_rootOf d 0 0 7 [(0, .long v), (2, .long r), (4, .long (btL j))] [] K I L (z_q0 K Q) := by
  intro w
  induction w with
  | zero =>
    intro j hj r h0 h1 h2 h3
    have : j = 31 := by omega
    subst this
    refine wp_X12_rootOf_7 hC (iq (by rw [btL_z]; decide) (h r ⟨h0, h2, ?_⟩))
    exact h3
  | succ w ih =>
    intro j hj r h0 h1 h2 h3
    obtain ⟨p1, p2⟩ := btL_p j (by omega)
    have pp : (0 : Int) < 2 ^ (30 - j) := Int.pow_pos (by decide)
    rw [p2, p1] at h1 h3
    have e30 : 31 - (j + 1) = 30 - j := by omega
    have ea : (r + btL j).toInt = r.toInt + 2 ^ (30 - j) := by rw [q_ladd (by omega) (by omega), p1]
    have m3 : (r.toInt + 2 ^ (30 - j)) * (r.toInt + 2 ^ (30 - j)) ≤ 2147483648 * 2147483648 := sq_mono (by omega) (by omega)
    have m4 : 0 ≤ (r.toInt + 2 ^ (30 - j)) * (r.toInt + 2 ^ (30 - j)) := Int.mul_nonneg (by omega) (by omega)
    have em : ((r + btL j) * (r + btL j)).toInt = (r.toInt + 2 ^ (30 - j)) * (r.toInt + 2 ^ (30 - j)) := by
      rw [q_lmul (by rw [ea]; omega) (by rw [ea]; omega), ea]
    refine wp_X12_rootOf_7 hC (ip (q_ltL.mpr (by rw [p1]; exact pp)) ?_)
    rw [btL_s j (by omega)]
    by_cases g2 : v.toInt < (r.toInt + 2 ^ (30 - j)) * (r.toInt + 2 ^ (30 - j))
    · refine ip (q_ltL.mpr (by rw [em]; exact g2)) (ih (j + 1) (by omega) r h0 ?_ h2 ?_)
      · rw [e30]; omega
      · rw [e30]; exact g2
    · refine iq (fun z => g2 (by have := q_ltL.mp z; rw [em] at this; exact this)) (ih (j + 1) (by omega) _ (by rw [ea]; omega) ?_ (by rw [ea]; omega) ?_)
      · rw [e30, ea]; omega
      · rw [e30, ea, show r.toInt + 2 ^ (30 - j) + 2 ^ (30 - j) = r.toInt + 2 * 2 ^ (30 - j) from by omega]; exact h3
theorem c12_rootOf (hC : CLay K) (h0 : 0 ≤ v.toInt) (hv : v.toInt < 4611686018427387904) (h : ∀ r, isR v r → Q (some (.long r)) I L) : RM0 n0 xX12_rootOf d [.long v] K I L Q := by
  refine wp_X12_rootOf hC (c12_rootOf_l hC hv h 31 0 (by omega) 0 (by decide) (by decide) ?_ ?_)
  · show (0 : Int) * 0 ≤ _
    omega
  · show _ < ((0 : Int) + 2 ^ 31) * (0 + 2 ^ 31)
    have : ((0 : Int) + 2 ^ 31) * (0 + 2 ^ 31) = 4611686018427387904 := by decide
    omega
end RT
