/-! lengths of lines -/
def nxW (W : Nat → Int32 × Int32) (N n : Nat) : Int32 × Int32 := if n + 1 < N then W (n + 1) else W 0
def d2W (W : Nat → Int32 × Int32) (N n : Nat) : Int64 := (((nxW W N n).1 - (W n).1 : Int32).toInt64 * ((nxW W N n).1 - (W n).1 : Int32).toInt64) + (((nxW W N n).2 - (W n).2 : Int32).toInt64 * ((nxW W N n).2 - (W n).2 : Int32).toInt64)
noncomputable def eW (W : Nat → Int32 × Int32) (N n : Nat) : Nat := (rtL (d2W W N n)).toInt.toNat
def preN (e : Nat → Nat) : Nat → Nat
  | 0 => 0
  | n + 1 => preN e n + e n
def acN (e : Nat → Nat) (N oa i : Nat) : Nat := if i ≤ N then preN e i - preN e oa else preN e N - preN e oa + preN e (i - N)
def bnW (W : Nat → Int32 × Int32) (N : Nat) : Prop := ∀ n, n < N → (-1101000 ≤ (W n).1.toInt ∧ (W n).1.toInt ≤ 1101000) ∧ (-1101000 ≤ (W n).2.toInt ∧ (W n).2.toInt ≤ 1101000)
section LEN
variable {n0 d : Nat} {K : z_K} {I : z_I} {L : z_L} {Q : z_q} {W : Nat → Int32 × Int32} {N : Nat} {e : Nat → Nat} {oa : Nat}
theorem pre_m : ∀ {a b : Nat}, a ≤ b → preN e a ≤ preN e b := by
  intro a b h
  induction b with
  | zero => have q : a = 0 := by omega
            rw [q]; exact Nat.le_refl _
  | succ b ih =>
    by_cases q : a = b + 1
    · rw [q]; exact Nat.le_refl _
    · have := ih (by omega)
      show _ ≤ preN e b + e b
      omega
theorem ac_s {i : Nat} (h : oa ≤ i) (hoa : oa ≤ N) : acN e N oa (i + 1) = acN e N oa i + e (if i < N then i else i - N) := by
  unfold acN
  by_cases g : i < N
  · rw [if_pos (by omega), if_pos (by omega), if_pos g]
    have := pre_m (e := e) h
    show preN e i + e i - preN e oa = _
    omega
  · rw [if_neg (by omega), if_neg g]
    by_cases g2 : i ≤ N
    · have : i = N := by omega
      subst this
      rw [if_pos (Nat.le_refl _), show i + 1 - i = 0 + 1 from by omega, Nat.sub_self]
      show _ + (preN e 0 + e 0) = _
      show _ + (0 + e 0) = _
      omega
    · rw [if_neg g2, show i + 1 - N = (i - N) + 1 from by omega]
      show _ + (preN e (i - N) + e (i - N)) = _
      omega
theorem pre_b {B : Nat} (he : ∀ n, n < N → e n ≤ B) : ∀ n, n ≤ N → preN e n ≤ n * B := by
  intro n
  induction n with
  | zero => intro _; show 0 ≤ _; omega
  | succ n ih =>
    intro h
    have h1 := ih (by omega)
    have h2 := he n (by omega)
    show preN e n + e n ≤ (n + 1) * B
    rw [Nat.add_mul]
    omega
theorem ac_b {B i : Nat} (he : ∀ n, n < N → e n ≤ B) (hi : i ≤ 2 * N) : acN e N oa i ≤ (2 * N) * B := by
  have h1 := pre_b he
  have hN := h1 N (Nat.le_refl _)
  have e2 : 2 * N * B = N * B + N * B := by rw [Nat.mul_assoc, Nat.two_mul]
  unfold acN
  split
  · have := h1 i (by omega)
    have : i * B ≤ N * B := Nat.mul_le_mul_right _ (by omega)
    omega
  · have := h1 (i - N) (by omega)
    have : (i - N) * B ≤ N * B := Nat.mul_le_mul_right _ (by omega)
    omega
theorem nx_b (hW : bnW W N) {n : Nat} (h : n < N) : (-1101000 ≤ (nxW W N n).1.toInt ∧ (nxW W N n).1.toInt ≤ 1101000) ∧ (-1101000 ≤ (nxW W N n).2.toInt ∧ (nxW W N n).2.toInt ≤ 1101000) := by
  unfold nxW
  split
  · exact hW _ (by omega)
  · exact hW _ (by omega)
theorem sq_b {z : Int} (h : -2202000 ≤ z ∧ z ≤ 2202000) : 0 ≤ z * z ∧ z * z ≤ 4848804000000 := by
  by_cases g : 0 ≤ z
  · refine ⟨Int.mul_nonneg g g, ?_⟩
    have := sq_mono g h.2
    omega
  · have e : z * z = (-z) * (-z) := by rw [Int.neg_mul_neg]
    rw [e]
    refine ⟨Int.mul_nonneg (by omega) (by omega), ?_⟩
    have := sq_mono (show 0 ≤ -z by omega) (show -z ≤ 2202000 by omega)
    omega
theorem d2_b (hW : bnW W N) {n : Nat} (h : n < N) : 0 ≤ (d2W W N n).toInt ∧ (d2W W N n).toInt ≤ 9697608000000 := by
  have b1 := hW n h
  have b2 := nx_b hW h
  have s1 : ((nxW W N n).1 - (W n).1).toInt = (nxW W N n).1.toInt - (W n).1.toInt := q_sub (by omega) (by omega)
  have s2 : ((nxW W N n).2 - (W n).2).toInt = (nxW W N n).2.toInt - (W n).2.toInt := q_sub (by omega) (by omega)
  have q1 := sq_b (z := ((nxW W N n).1 - (W n).1).toInt) (by rw [s1]; omega)
  have q2 := sq_b (z := ((nxW W N n).2 - (W n).2).toInt) (by rw [s2]; omega)
  have m1 : (((nxW W N n).1 - (W n).1 : Int32).toInt64 * ((nxW W N n).1 - (W n).1 : Int32).toInt64).toInt = ((nxW W N n).1 - (W n).1).toInt * ((nxW W N n).1 - (W n).1).toInt := by rw [q_lmul (by rw [q_i2l]; omega) (by rw [q_i2l]; omega), q_i2l]
  have m2 : (((nxW W N n).2 - (W n).2 : Int32).toInt64 * ((nxW W N n).2 - (W n).2 : Int32).toInt64).toInt = ((nxW W N n).2 - (W n).2).toInt * ((nxW W N n).2 - (W n).2).toInt := by rw [q_lmul (by rw [q_i2l]; omega) (by rw [q_i2l]; omega), q_i2l]
  unfold d2W
  rw [q_ladd (by rw [m1, m2]; omega) (by rw [m1, m2]; omega), m1, m2]
  omega
theorem eW_r (hW : bnW W N) {n : Nat} (h : n < N) {r : Int64} (hr : isR (d2W W N n) r) : r.toInt = ((eW W N n : Nat) : Int) ∧ eW W N n ≤ 4000000 := by
  have hb := d2_b hW h
  have e1 : eW W N n = r.toInt.toNat := by unfold eW; rw [rtL_e hr]
  have h0 := hr.1
  have hle : r.toInt ≤ 4000000 := Classical.byContradiction (fun z => by
    have := sq_mono (show (0 : Int) ≤ 4000001 by omega) (show (4000001 : Int) ≤ r.toInt by omega)
    have := hr.2.1
    omega)
  rw [e1]
  omega
theorem eW_b (hW : bnW W N) (hN : N ≤ 80) : ∀ n, n < N → eW W N n ≤ 4000000 := by
  intro n h
  have hb := d2_b hW h
  by_cases ex : ∃ r, isR (d2W W N n) r
  · obtain ⟨r, hr⟩ := ex
    exact (eW_r hW h hr).2
  · exfalso
    refine ex ?_
    obtain ⟨k, k1, k2⟩ := nat_rt (d2W W N n).toInt.toNat
    have hk : k ≤ 4000000 := Classical.byContradiction (fun z => by
      have := Nat.mul_le_mul (show 4000001 ≤ k by omega) (show 4000001 ≤ k by omega)
      omega)
    have e : ((nI k).toInt64).toInt = (k : Int) := by rw [q_i2l, q_nI (by omega)]
    refine ⟨(nI k).toInt64, by rw [e]; omega, ?_, ?_⟩
    · rw [e]
      have : ((k * k : Nat) : Int) = (k : Int) * k := Int.natCast_mul k k
      omega
    · rw [e]
      have : (((k + 1) * (k + 1) : Nat) : Int) = ((k : Int) + 1) * (k + 1) := by rw [Int.natCast_mul, Int.natCast_add]; rfl
      omega
theorem c2_len_l {wy F : Nat} (hC : CLay K) (hN : 1 ≤ N ∧ N ≤ 80) (hW : bnW W N) (h15 : I 8 15 = nI N) (hn : ∀ n, n < N → I 18 n = (W n).1 ∧ I 19 n = (W n).2) (hoa : oa < N) (hF : oa + wy = F) (hF2 : F ≤ 2 * N) (hwy : wy ≤ N)
    (h : Q (some (.int (nI (acN (eW W N) N oa F)))) I L) :
    ∀ (w c : Nat) (s : Int64), c + w = wy → s.toInt = ((acN (eW W N) N oa (oa + c) : Nat) : Int) → Z n0 xX2_lengthOf (d + 1) 0 0 48 [(0, .ref (n0 + 8)), (4, .int (nI wy)), (5, .long s), (7, .int (nI (if oa + c < N then oa + c else oa + c - N))), (8, .int (nI c))] [] K I L (z_q0 K Q) := by
  have eb := eW_b hW hN.2
  intro w
  induction w with
  | zero =>
    intro c s hc hs
    have hc' : c = wy := by omega
    subst hc'
    refine wp_X2_lengthOf_48 hC (iq (fun z => by have := q_lt.mp z; omega) ?_)
    rw [hF] at hs
    have ab := ac_b (oa := oa) (i := F) eb hF2
    have hN80 : 2 * N * 4000000 ≤ 640000000 := by omega
    have e : s.toInt32 = nI (acN (eW W N) N oa F) := q_eq.mpr (by rw [q_l2i (by omega) (by omega), hs, q_nI (by omega)])
    rw [e]
    exact h
  | succ w ih =>
    intro c s hc hs
    have hi : (if oa + c < N then oa + c else oa + c - N) < N := by split <;> omega
    generalize hx : (if oa + c < N then oa + c else oa + c - N) = x at hi ⊢
    have nx := ih (c + 1)
    refine wp_X2_lengthOf_48 hC (ip (nI_lt (by omega) (by omega)) ?_)
    have en : (if nI x + 1 < nI N then nI x + 1 else 0) = nI (if x + 1 < N then x + 1 else 0) := by
      rw [← nI_succ]
      by_cases q : x + 1 < N
      · rw [if_pos q, if_pos (nI_lt q (by omega))]
      · rw [if_neg q, if_neg (fun z => q (by have := q_lt.mp z; rw [q_nI (by omega), q_nI (by omega)] at this; omega))]; rfl
    have hxn : (if x + 1 < N then x + 1 else 0) < N := by split <;> omega
    have enx : nxW W N x = W (if x + 1 < N then x + 1 else 0) := by
      unfold nxW
      by_cases q : x + 1 < N
      · rw [if_pos q, if_pos q]
      · rw [if_neg q, if_neg q]
    rw [h15, en, q_cl (n := if x + 1 < N then x + 1 else 0) (by omega), q_cl (n := x) (by omega), (hn _ hxn).1, (hn _ hxn).2, (hn x hi).1, (hn x hi).2, ← enx]
    refine ⟨q_inn (by omega) (by omega), q_inn (by omega) (by omega), ?_⟩
    have hb := d2_b hW hi
    refine c12_rootOf (v := d2W W N x) hC hb.1 (by omega) (fun r hr => ⟨_, rfl, ?_⟩)
    obtain ⟨r1, r2⟩ := eW_r hW hi hr
    have as := ac_s (e := eW W N) (N := N) (oa := oa) (i := oa + c) (by omega) (by omega)
    rw [hx] at as
    have ab := ac_b (oa := oa) (i := oa + c) eb (by omega)
    have hN80 : 2 * N * 4000000 ≤ 640000000 := by omega
    have e2 : (if oa + (c + 1) < N then oa + (c + 1) else oa + (c + 1) - N) = (if x + 1 < N then x + 1 else 0) := by
      by_cases q : oa + c < N
      · rw [if_pos q] at hx
        by_cases q2 : oa + (c + 1) < N
        · rw [if_pos q2, if_pos (by omega)]; omega
        · rw [if_neg q2, if_neg (by omega)]; omega
      · rw [if_neg q] at hx
        rw [if_neg (by omega), if_pos (by omega)]; omega
    rw [← nI_succ, ← e2]
    refine nx (s + r) (by omega) ?_
    rw [q_ladd (by omega) (by omega), hs, r1, show oa + (c + 1) = oa + c + 1 from by omega, as]
    omega
end LEN
