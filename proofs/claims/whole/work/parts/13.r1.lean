/-! leaves of the reference and of the component -/
section LV
variable {n0 d : Nat} {K : z_K} {I : z_I} {L : z_L} {Q : z_q}
theorem c13_in {v lo hi : Int64} (hM : MLay K) (h : Q (some (.int (bI (lo.toInt ≤ v.toInt ∧ v.toInt ≤ hi.toInt)))) I L) : RM0 n0 xX13_in d [.long v, .long lo, .long hi] K I L Q := by
  refine wp_X13_in hM ?_
  by_cases h1 : v < lo
  · rw [if_pos h1]
    rw [bI_f (by have := q_ltL.mp h1; omega)] at h
    exact h
  · rw [if_neg h1]
    have h1' : ¬ v.toInt < lo.toInt := fun q => h1 (q_ltL.mpr q)
    by_cases h2 : hi < v
    · rw [if_pos h2]
      rw [bI_f (by have := q_ltL.mp h2; omega)] at h
      exact h
    · rw [if_neg h2]
      have h2' : ¬ hi.toInt < v.toInt := fun q => h2 (q_ltL.mpr q)
      rw [bI_t (by omega)] at h
      exact h
theorem bI_c {p q : Prop} [Decidable p] [Decidable q] (h : p ↔ q) : bI p = bI q := by unfold bI; simp [h]
theorem c13_isMeasure {m : Int32} (hM : MLay K) (h : Q (some (.int (bI (0 ≤ m.toInt ∧ m.toInt < 8)))) I L) : RM0 n0 xX13_isMeasure (d + 1) [.int m] K I L Q := by
  refine wp_X13_isMeasure hM (c13_in hM ⟨_, rfl, bI_b, ?_⟩)
  rw [bI_c (q := 0 ≤ m.toInt ∧ m.toInt < 8) (by rw [q_i2l]; show (0 ≤ _ ∧ _ ≤ 7) ↔ _; omega)]
  exact h
theorem c13_isSize {m : Int32} (hM : MLay K) (h : Q (some (.int (bI (0 ≤ m.toInt ∧ m.toInt < 11)))) I L) : RM0 n0 xX13_isSize (d + 1) [.int m] K I L Q := by
  refine wp_X13_isSize hM (c13_in hM ⟨_, rfl, bI_b, ?_⟩)
  rw [bI_c (q := 0 ≤ m.toInt ∧ m.toInt < 11) (by rw [q_i2l]; show (0 ≤ _ ∧ _ ≤ 10) ↔ _; omega)]
  exact h
theorem q_pred {n : Nat} (h : n < 2 ^ 31) : ((nI n - 1).toInt64).toInt = (n : Int) - 1 := by
  rw [q_i2l, q_sub]
  · rw [q_nI h]; rfl
  · rw [q_nI h]; show -2147483648 ≤ (n : Int) - 1; omega
  · rw [q_nI h]; show (n : Int) - 1 < 2147483648; omega
theorem c13_isBody {b : Int32} {nb : Nat} (hM : MLay K) (hn : I 59 6 = nI nb) (hb : nb < 2 ^ 31) (h : Q (some (.int (bI (0 ≤ b.toInt ∧ b.toInt < nb)))) I L) : RM0 n0 xX13_isBody (d + 1) [.ref (n0 + 59), .int b] K I L Q := by
  refine wp_X13_isBody hM (c13_in hM ⟨_, rfl, bI_b, ?_⟩)
  rw [bI_c (q := 0 ≤ b.toInt ∧ b.toInt < nb) (by rw [q_i2l, hn, q_pred hb]; show (0 ≤ _ ∧ _) ↔ _; omega)]
  exact h
theorem c13_isPiece {b : Int32} {nb : Nat} (hM : MLay K) (hn : I 59 9 = nI nb) (hb : nb < 2 ^ 31) (h : Q (some (.int (bI (0 ≤ b.toInt ∧ b.toInt < nb)))) I L) : RM0 n0 xX13_isPiece (d + 1) [.ref (n0 + 59), .int b] K I L Q := by
  refine wp_X13_isPiece hM (c13_in hM ⟨_, rfl, bI_b, ?_⟩)
  rw [bI_c (q := 0 ≤ b.toInt ∧ b.toInt < nb) (by rw [q_i2l, hn, q_pred hb]; show (0 ≤ _ ∧ _) ↔ _; omega)]
  exact h
theorem c13_isSeam {b : Int32} {nb : Nat} (hM : MLay K) (hn : I 59 62 = nI nb) (hb : nb < 2 ^ 31) (h : Q (some (.int (bI (0 ≤ b.toInt ∧ b.toInt < nb)))) I L) : RM0 n0 xX13_isSeam (d + 1) [.ref (n0 + 59), .int b] K I L Q := by
  refine wp_X13_isSeam hM (c13_in hM ⟨_, rfl, bI_b, ?_⟩)
  rw [bI_c (q := 0 ≤ b.toInt ∧ b.toInt < nb) (by rw [q_i2l, hn, q_pred hb]; show (0 ≤ _ ∧ _) ↔ _; omega)]
  exact h
theorem c13_isEdition {b : Int32} {nb : Nat} (hM : MLay K) (hn : I 59 114 = nI nb) (hb : nb < 2 ^ 31) (h : Q (some (.int (bI (0 ≤ b.toInt ∧ b.toInt < nb)))) I L) : RM0 n0 xX13_isEdition (d + 1) [.ref (n0 + 59), .int b] K I L Q := by
  refine wp_X13_isEdition hM (c13_in hM ⟨_, rfl, bI_b, ?_⟩)
  rw [bI_c (q := 0 ≤ b.toInt ∧ b.toInt < nb) (by rw [q_i2l, hn, q_pred hb]; show (0 ≤ _ ∧ _) ↔ _; omega)]
  exact h
/-- a point of a piece: np pieces, the points of each -/
def isPt (np : Nat) (pts : Nat → Nat) (p k : Int32) : Prop := 0 ≤ p.toInt ∧ p.toInt < np ∧ 0 ≤ k.toInt ∧ k.toInt < pts p.toInt.toNat
theorem isPt_dec (np : Nat) (pts : Nat → Nat) (p k : Int32) : isPt np pts p k ∨ ¬ isPt np pts p k := Classical.em _
theorem c13_isPoint {p k : Int32} {np : Nat} {pts : Nat → Nat} (hM : MLay K) (hn : I 59 9 = nI np) (hb : np ≤ 16) (hp : ∀ i, i < np → I 67 i = nI (pts i) ∧ pts i ≤ 10)
    (h1 : isPt np pts p k → Q (some (.int 1)) I L) (h0 : ¬ isPt np pts p k → Q (some (.int 0)) I L) : RM0 n0 xX13_isPoint (d + 2) [.ref (n0 + 59), .int p, .int k] K I L Q := by
  refine wp_X13_isPoint hM (c13_isPiece hM hn (by omega) ⟨_, rfl, ?_⟩)
  by_cases hpp : 0 ≤ p.toInt ∧ p.toInt < np
  · rw [bI_t hpp, if_neg (by decide)]
    refine ⟨q_in hpp.1 (by omega), c13_in hM ⟨_, rfl, ?_⟩⟩
    obtain ⟨e1, e2⟩ := hp p.toInt.toNat (by omega)
    have e3 : p.toNatClampNeg = p.toInt.toNat := rfl
    rw [e3, e1]
    by_cases hk : 0 ≤ k.toInt ∧ k.toInt < pts p.toInt.toNat
    · rw [bI_t (by rw [q_i2l, q_pred (by omega)]; show 0 ≤ _ ∧ _; omega), if_neg (by decide)]
      exact h1 ⟨hpp.1, hpp.2, hk.1, hk.2⟩
    · rw [bI_f (by rw [q_i2l, q_pred (by omega)]; show ¬ (0 ≤ _ ∧ _); omega), if_pos rfl]
      exact h0 (fun q => hk ⟨q.2.2.1, q.2.2.2⟩)
  · rw [bI_f hpp, if_pos rfl]
    exact h0 (fun q => hpp ⟨q.1, q.2.1⟩)
theorem q_negk {w : Int32} {k : Nat} (hk : k ≤ 7) (hw : w.toInt = -(k : Int)) : (-w).toInt = (k : Int) ∧ (-w).toNatClampNeg = k := by
  have : (-w).toInt = (k : Int) := by rw [q_neg (by omega)]; omega
  refine ⟨this, ?_⟩
  show (-w).toInt.toNat = k
  omega
theorem c13_refuse {w : Int32} (k : Nat) (hM : MLay K) (hk : k ≤ 7) (hw : w.toInt = -(k : Int)) (h : Q (some (.int w)) (zI I 75 k (I 75 k + 1)) L) : RM0 n0 xX13_refuse d [.ref (n0 + 59), .int w] K I L Q := by
  obtain ⟨e1, e2⟩ := q_negk hk hw
  refine wp_X13_refuse hM ⟨q_in (by omega) (by omega), ?_⟩
  rw [e2]; exact h
theorem c13_refuseFar {w : Int32} (k : Nat) (hM : MLay K) (hk : k ≤ 7) (hw : w.toInt = -(k : Int)) (h : Q (some (.int (1000000000 - w))) (zI I 75 k (I 75 k + 1)) L) : RM0 n0 xX13_refuseFar d [.ref (n0 + 59), .int w] K I L Q := by
  obtain ⟨e1, e2⟩ := q_negk hk hw
  refine wp_X13_refuseFar hM ⟨q_in (by omega) (by omega), ?_⟩
  rw [e2]; exact h
theorem c12_refuse {w : Int32} (k : Nat) (hC : CLay K) (hk1 : 1 ≤ k) (hk : k ≤ 7) (hw : w.toInt = -(k : Int)) (h : Q (some (.int w)) (zI I 1 k (I 1 k + 1)) L) : RM0 n0 xX12_refuse d [.ref (n0 + 0), .int w] K I L Q := by
  obtain ⟨e1, e2⟩ := q_negk hk hw
  refine wp_X12_refuse hC ?_
  rw [if_neg (by rw [q_lt]; show ¬ _ < -7; omega), if_neg (by rw [q_lt]; show ¬ -1 < _; omega)]
  refine ⟨q_in (by omega) (by omega), ?_⟩
  rw [e2]; exact h
theorem c12_refuseApart {w : Int32} (k : Nat) (hC : CLay K) (hk1 : 1 ≤ k) (hk : k ≤ 7) (hw : w.toInt = -(k : Int)) (h : Q (some (.int (1000000000 - w))) (zI I 1 k (I 1 k + 1)) L) : RM0 n0 xX12_refuseApart (d + 1) [.ref (n0 + 0), .int w] K I L Q :=
  wp_X12_refuseApart hC (c12_refuse k hC hk1 hk hw ⟨_, rfl, h⟩)
theorem c12_isMeasure {m : Int32} (hC : CLay K) (h : Q (some (.int (bI (0 ≤ m.toInt ∧ m.toInt < 8)))) I L) : RM0 n0 xX12_isMeasure d [.int m] K I L Q := by
  refine wp_X12_isMeasure hC ?_
  have e : (if m < 0 then (0 : Int32) else if m < 8 then 1 else 0) = bI (0 ≤ m.toInt ∧ m.toInt < 8) := by
    unfold bI
    simp only [q_lt]
    show (if m.toInt < 0 then (0 : Int32) else if m.toInt < 8 then 1 else 0) = _
    split
    · rw [if_neg (by omega)]
    · split
      · rw [if_pos (by omega)]
      · rw [if_neg (by omega)]
  rw [e]; exact h
theorem c12_isSize {m : Int32} (hC : CLay K) (h : Q (some (.int (bI (0 ≤ m.toInt ∧ m.toInt < 11)))) I L) : RM0 n0 xX12_isSize d [.int m] K I L Q := by
  refine wp_X12_isSize hC ?_
  have e : (if m < 0 then (0 : Int32) else if m < 11 then 1 else 0) = bI (0 ≤ m.toInt ∧ m.toInt < 11) := by
    unfold bI
    simp only [q_lt]
    show (if m.toInt < 0 then (0 : Int32) else if m.toInt < 11 then 1 else 0) = _
    split
    · rw [if_neg (by omega)]
    · split
      · rw [if_pos (by omega)]
      · rw [if_neg (by omega)]
  rw [e]; exact h
/-- what 'bounds' and 'outside' answer -/
def bnd (v lo hi : Int32) : Int32 := if v < lo then (-4) else if hi < v then (-6) else 0
theorem c13_bounds {v lo hi : Int32} (hM : MLay K) (h : Q (some (.int (bnd v lo hi))) I L) : RM0 n0 xX13_bounds d [.int v, .int lo, .int hi] K I L Q := wp_X13_bounds hM h
theorem c12_outside {v lo hi : Int32} (hC : CLay K) (h : Q (some (.int (bnd v lo hi))) I L) : RM0 n0 xX12_outside d [.int v, .int lo, .int hi] K I L Q := by
  refine wp_X12_outside hC ?_
  unfold bnd at h
  split
  · rename_i g; rw [if_pos g] at h; exact h
  · rename_i g; rw [if_neg g] at h; exact h
theorem bnd_cases (v lo hi : Int32) : (bnd v lo hi = (-4) ∧ v.toInt < lo.toInt) ∨ (bnd v lo hi = (-6) ∧ lo.toInt ≤ v.toInt ∧ hi.toInt < v.toInt) ∨ (bnd v lo hi = 0 ∧ lo.toInt ≤ v.toInt ∧ v.toInt ≤ hi.toInt) := by
  unfold bnd
  by_cases g : v < lo
  · rw [if_pos g]; exact Or.inl ⟨rfl, q_lt.mp g⟩
  · rw [if_neg g]
    have g' : ¬ v.toInt < lo.toInt := fun q => g (q_lt.mpr q)
    by_cases g2 : hi < v
    · rw [if_pos g2]; exact Or.inr (Or.inl ⟨rfl, by omega, q_lt.mp g2⟩)
    · rw [if_neg g2]
      have g2' : ¬ hi.toInt < v.toInt := fun q => g2 (q_lt.mpr q)
      exact Or.inr (Or.inr ⟨rfl, by omega, by omega⟩)
theorem c12_isAxis {m : Int32} (hC : CLay K) (h : Q (some (.int (bI (0 ≤ m.toInt ∧ m.toInt ≤ 1)))) I L) : RM0 n0 xX12_isAxis d [.int m] K I L Q := by
  refine wp_X12_isAxis hC ?_
  have e : (if m = 0 then (1 : Int32) else if m = 1 then 1 else 0) = bI (0 ≤ m.toInt ∧ m.toInt ≤ 1) := by
    unfold bI
    by_cases h0 : m = 0
    · subst h0; rfl
    · by_cases h1 : m = 1
      · subst h1; rfl
      · have e0 : m.toInt ≠ 0 := fun z => h0 (q_eq.mpr z)
        have e1 : m.toInt ≠ 1 := fun z => h1 (q_eq.mpr z)
        rw [if_neg h0, if_neg h1, if_neg (by omega)]
  first | (rw [e]; exact h) | (simpa [e] using h)
end LV
