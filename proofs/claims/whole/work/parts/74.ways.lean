def fwS (a j : Nat) : Prop := (a = 59 ∧ j = 61) ∨ (95 ≤ a ∧ a ≤ 97)
section FWS
variable {n0 d : Nat} {K : z_K} {I : z_I} {L : z_L} {Q : z_q} {np nr nb na t : Nat} {pid pts rid rp rk ln cx cy bid m : Nat → Nat} {par : Nat → Option Nat} {X Y : Nat → List Int32} {A : Int32 → Int32 → Option (Int32 × Int32)} {p : Nat} {g : Nat → Int32 × Int32} {cv : Nat → Bool} {nd : Nat → Nat → Int32 × Int32}
theorem c13_half {v : Int32} (hM : MLay K) (hv : -1073741824 ≤ v.toInt ∧ v.toInt ≤ 1073741824) (h : ∀ r : Int32, r.toInt = v.toInt / 2 → Q (some (.int r)) I L) : RM0 n0 xX13_halfDown d [.int v] K I L Q := by
  have e0 : (0 : Int32).toInt = 0 := rfl
  have e1 : (1 : Int32).toInt = 1 := rfl
  refine wp_X13_halfDown hM (h _ ?_)
  by_cases g : v < 0
  · rw [if_pos g]
    have gx := q_lt.mp g
    have es : (1 - v).toInt = 1 - v.toInt := by rw [q_sub (by omega) (by omega), e1]
    have ed : ((1 - v) / 2).toInt = (1 - v.toInt) / 2 := by
      rw [Int32.toInt_div_of_ne_right _ _ (by decide), es]
      show Int.tdiv _ 2 = _
      rw [Int.tdiv_eq_ediv_of_nonneg (by omega)]
    rw [q_neg (by rw [ed]; omega), ed]
    omega
  · rw [if_neg g]
    have gx := mt q_lt.mpr g
    rw [Int32.toInt_div_of_ne_right _ _ (by decide)]
    show Int.tdiv _ 2 = _
    rw [Int.tdiv_eq_ediv_of_nonneg (by omega)]
theorem q_l2i {x : Int64} (h1 : -2147483648 ≤ x.toInt) (h2 : x.toInt < 2147483648) : x.toInt32.toInt = x.toInt := by
  rw [Int64.toInt_toInt32]
  exact Int.bmod_eq_of_le (by omega) (by omega)
theorem c13_d64 {v : Int64} (hM : MLay K) (hv : -1000000000 ≤ v.toInt ∧ v.toInt ≤ 1000000000) (h : ∀ r : Int32, r.toInt = v.toInt / 64 → Q (some (.int r)) I L) : RM0 n0 xX13_downBy64 d [.long v] K I L Q := by
  have e0 : (0 : Int64).toInt = 0 := rfl
  have e63 : (63 : Int64).toInt = 63 := rfl
  refine wp_X13_downBy64 hM ?_
  by_cases g : v < 0
  · refine ip g (h _ ?_)
    have gx := q_ltL.mp g
    have es : (63 - v).toInt = 63 - v.toInt := by rw [q_lsub (by omega) (by omega), e63]
    have ed : ((63 - v) / 64).toInt = (63 - v.toInt) / 64 := by
      rw [Int64.toInt_div_of_ne_right _ _ (by decide), es]
      show Int.tdiv _ 64 = _
      rw [Int.tdiv_eq_ediv_of_nonneg (by omega)]
    have en : (-((63 - v) / 64)).toInt = -((63 - v.toInt) / 64) := by
      rw [Int64.toInt_neg, ed]
      exact Int.bmod_eq_of_le (by omega) (by omega)
    rw [q_l2i (by rw [en]; omega) (by rw [en]; omega), en]
    omega
  · refine iq g (h _ ?_)
    have gx := mt q_ltL.mpr g
    have ed : (v / 64).toInt = v.toInt / 64 := by
      rw [Int64.toInt_div_of_ne_right _ _ (by decide)]
      show Int.tdiv _ 64 = _
      rw [Int.tdiv_eq_ediv_of_nonneg (by omega)]
    rw [q_l2i (by rw [ed]; omega) (by rw [ed]; omega), ed]
theorem c13_nd {t : Nat} {f s k r : Int32} (ht : t < 8) (hM : MLay K) (hf : -1100000 ≤ f.toInt ∧ f.toInt ≤ 1100000) (hs : -1100000 ≤ s.toInt ∧ s.toInt ≤ 1100000) (hk : -999 ≤ k.toInt ∧ k.toInt ≤ 999) (hr : r.toInt = (f.toInt + s.toInt) / 2) (h : ∀ q : Int32, q = Int32.ofInt (ndZ t f.toInt s.toInt k.toInt) → Q (some (.int q)) I L) :
    RM0 n0 xX13_downBy64 d [.long (((((((8 - nI t) * (8 - nI t)) : Int32).toInt64) * f.toInt64) + (((((2 * nI t) * (8 - nI t)) : Int32).toInt64) * ((r + k) : Int32).toInt64)) + ((((nI t * nI t) : Int32).toInt64) * s.toInt64))] K I L Q := by
  have hm : (r + k).toInt = (f.toInt + s.toInt) / 2 + k.toInt := by rw [q_add (by omega) (by omega), hr]
  have key : ∀ a b c : Int32, 0 ≤ a.toInt → a.toInt ≤ 64 → 0 ≤ b.toInt → b.toInt ≤ 32 → 0 ≤ c.toInt → c.toInt ≤ 49 → ((a.toInt64 * f.toInt64 + b.toInt64 * (r + k).toInt64) + c.toInt64 * s.toInt64).toInt = a.toInt * f.toInt + b.toInt * ((f.toInt + s.toInt) / 2 + k.toInt) + c.toInt * s.toInt ∧ (-1000000000 ≤ a.toInt * f.toInt + b.toInt * ((f.toInt + s.toInt) / 2 + k.toInt) + c.toInt * s.toInt ∧ a.toInt * f.toInt + b.toInt * ((f.toInt + s.toInt) / 2 + k.toInt) + c.toInt * s.toInt ≤ 1000000000) := by
    intro a b c a0 a1 b0 b1 c0 c1
    have p1 : -(64 * 1100000) ≤ a.toInt * f.toInt ∧ a.toInt * f.toInt ≤ 64 * 1100000 := by
      refine ⟨?_, ?_⟩
      · have := Int.mul_le_mul_of_nonneg_left (show -1100000 ≤ f.toInt from hf.1) a0
        omega
      · have := Int.mul_le_mul_of_nonneg_left (show f.toInt ≤ 1100000 from hf.2) a0
        omega
    have p2 : -(32 * 1102000) ≤ b.toInt * ((f.toInt + s.toInt) / 2 + k.toInt) ∧ b.toInt * ((f.toInt + s.toInt) / 2 + k.toInt) ≤ 32 * 1102000 := by
      refine ⟨?_, ?_⟩
      · have := Int.mul_le_mul_of_nonneg_left (show -1102000 ≤ (f.toInt + s.toInt) / 2 + k.toInt by omega) b0
        omega
      · have := Int.mul_le_mul_of_nonneg_left (show (f.toInt + s.toInt) / 2 + k.toInt ≤ 1102000 by omega) b0
        omega
    have p3 : -(49 * 1100000) ≤ c.toInt * s.toInt ∧ c.toInt * s.toInt ≤ 49 * 1100000 := by
      refine ⟨?_, ?_⟩
      · have := Int.mul_le_mul_of_nonneg_left (show -1100000 ≤ s.toInt from hs.1) c0
        omega
      · have := Int.mul_le_mul_of_nonneg_left (show s.toInt ≤ 1100000 from hs.2) c0
        omega
    have m1 : (a.toInt64 * f.toInt64).toInt = a.toInt * f.toInt := by rw [q_lmul (by rw [q_i2l, q_i2l]; omega) (by rw [q_i2l, q_i2l]; omega), q_i2l, q_i2l]
    have m2 : (b.toInt64 * (r + k).toInt64).toInt = b.toInt * ((f.toInt + s.toInt) / 2 + k.toInt) := by rw [q_lmul (by rw [q_i2l, q_i2l, hm]; omega) (by rw [q_i2l, q_i2l, hm]; omega), q_i2l, q_i2l, hm]
    have m3 : (c.toInt64 * s.toInt64).toInt = c.toInt * s.toInt := by rw [q_lmul (by rw [q_i2l, q_i2l]; omega) (by rw [q_i2l, q_i2l]; omega), q_i2l, q_i2l]
    refine ⟨?_, by omega, by omega⟩
    rw [q_ladd (by rw [q_ladd (by omega) (by omega)]; omega) (by rw [q_ladd (by omega) (by omega)]; omega), q_ladd (by omega) (by omega), m1, m2, m3]
  have fin : ∀ a b c : Int32, 0 ≤ a.toInt → a.toInt ≤ 64 → 0 ≤ b.toInt → b.toInt ≤ 32 → 0 ≤ c.toInt → c.toInt ≤ 49 → (a.toInt * f.toInt + b.toInt * ((f.toInt + s.toInt) / 2 + k.toInt) + c.toInt * s.toInt) / 64 = ndZ t f.toInt s.toInt k.toInt → RM0 n0 xX13_downBy64 d [.long ((a.toInt64 * f.toInt64 + b.toInt64 * (r + k).toInt64) + c.toInt64 * s.toInt64)] K I L Q := by
    intro a b c a0 a1 b0 b1 c0 c1 e
    obtain ⟨k1, k2⟩ := key a b c a0 a1 b0 b1 c0 c1
    refine c13_d64 hM (by rw [k1]; exact k2) (fun q hq => h q (ofI ?_))
    rw [hq, k1, e]
  have tt : t = 0 ∨ t = 1 ∨ t = 2 ∨ t = 3 ∨ t = 4 ∨ t = 5 ∨ t = 6 ∨ t = 7 := by omega
  rcases tt with e | e | e | e | e | e | e | e <;> subst e
  · exact fin ((8 - nI 0) * (8 - nI 0)) (2 * nI 0 * (8 - nI 0)) (nI 0 * nI 0) (by decide) (by decide) (by decide) (by decide) (by decide) (by decide) rfl
  · exact fin ((8 - nI 1) * (8 - nI 1)) (2 * nI 1 * (8 - nI 1)) (nI 1 * nI 1) (by decide) (by decide) (by decide) (by decide) (by decide) (by decide) rfl
  · exact fin ((8 - nI 2) * (8 - nI 2)) (2 * nI 2 * (8 - nI 2)) (nI 2 * nI 2) (by decide) (by decide) (by decide) (by decide) (by decide) (by decide) rfl
  · exact fin ((8 - nI 3) * (8 - nI 3)) (2 * nI 3 * (8 - nI 3)) (nI 3 * nI 3) (by decide) (by decide) (by decide) (by decide) (by decide) (by decide) rfl
  · exact fin ((8 - nI 4) * (8 - nI 4)) (2 * nI 4 * (8 - nI 4)) (nI 4 * nI 4) (by decide) (by decide) (by decide) (by decide) (by decide) (by decide) rfl
  · exact fin ((8 - nI 5) * (8 - nI 5)) (2 * nI 5 * (8 - nI 5)) (nI 5 * nI 5) (by decide) (by decide) (by decide) (by decide) (by decide) (by decide) rfl
  · exact fin ((8 - nI 6) * (8 - nI 6)) (2 * nI 6 * (8 - nI 6)) (nI 6 * nI 6) (by decide) (by decide) (by decide) (by decide) (by decide) (by decide) rfl
  · exact fin ((8 - nI 7) * (8 - nI 7)) (2 * nI 7 * (8 - nI 7)) (nI 7 * nI 7) (by decide) (by decide) (by decide) (by decide) (by decide) (by decide) rfl
theorem fwS_g {a j : Nat} (h : fwS a j) : gS K a j := by
  rcases h with ⟨e, e2⟩ | h
  · subst e; exact g59 (by omega)
  · exact g92 (by omega)
theorem c13_ways_l (hM : MLay K) (h67 : I 67 p = nI (pts p)) (hp : p < 16) (hpt : 3 ≤ pts p ∧ pts p ≤ 10) (hg : ∀ k, k < pts p → I 92 k = (g k).1 ∧ I 93 k = (g k).2) (hb : bnP g (pts p)) (hk : bnK (fun k => I 73 (10 * p + k)) (fun k => I 74 (10 * p + k)) (pts p)) (hcv : ∀ k, k < pts p → cv k = decide (¬ I 72 (10 * p + k) = 0))
    (h : ∀ I', Fz fwS I I' → I' 59 61 = nI (offN cv (pts p)) → (∀ n, n < offN cv (pts p) → I' 95 n = (wyN cv (ndP g (fun k => I 73 (10 * p + k)) (fun k => I 74 (10 * p + k)) (pts p)) (pts p) n).1 ∧ I' 96 n = (wyN cv (ndP g (fun k => I 73 (10 * p + k)) (fun k => I 74 (10 * p + k)) (pts p)) (pts p) n).2) → (I' 95 (offN cv (pts p)) = (g 0).1 ∧ I' 96 (offN cv (pts p)) = (g 0).2) → (∀ k, k ≤ pts p → I' 97 k = nI (offN cv k)) → Q none I' L) :
    ∀ w k I1, k + w = pts p → Fz fwS I I1 → I1 59 61 = nI (offN cv k) → (∀ n, n < offN cv k → I1 95 n = (wyN cv (ndP g (fun k => I 73 (10 * p + k)) (fun k => I 74 (10 * p + k)) (pts p)) (pts p) n).1 ∧ I1 96 n = (wyN cv (ndP g (fun k => I 73 (10 * p + k)) (fun k => I 74 (10 * p + k)) (pts p)) (pts p) n).2) → (∀ q, q < k → I1 97 q = nI (offN cv q)) → Z n0 xX13_findWays (d + 3) 0 0 7 [(0, .ref (n0 + 59)), (1, .int (nI p)), (2, .int (nI k))] [] K I1 L (z_q0 K Q) := by
  have hoff := off_b (cv := cv) (pts p)
  generalize hnd : ndP g (fun k => I 73 (10 * p + k)) (fun k => I 74 (10 * p + k)) (pts p) = nd at h ⊢
  have low : ∀ {I1}, Fz fwS I I1 → ∀ a, a ≠ 59 → a < 95 → I1 a = I a := fun hI a h1 h2 => funext fun j => hI a j (by unfold fwS; omega)
  have inner : ∀ k, k < pts p → stN cv k = 8 → ∀ rx ry : Int32, rx.toInt = ((g k).1.toInt + (g (if k + 1 < pts p then k + 1 else 0)).1.toInt) / 2 → ry.toInt = ((g k).2.toInt + (g (if k + 1 < pts p then k + 1 else 0)).2.toInt) / 2 → (∀ I2, Fz fwS I I2 → I2 59 61 = nI (offN cv (k + 1)) → (∀ n, n < offN cv (k + 1) → I2 95 n = (wyN cv nd (pts p) n).1 ∧ I2 96 n = (wyN cv nd (pts p) n).2) → (∀ q, q < k + 1 → I2 97 q = nI (offN cv q)) → Z n0 xX13_findWays (d + 3) 0 0 7 [(0, .ref (n0 + 59)), (1, .int (nI p)), (2, .int (nI (k + 1)))] [] K I2 L (z_q0 K Q)) → ∀ w s I1, 1 ≤ s → s + w = 8 → Fz fwS I I1 → I1 59 61 = nI (offN cv k + s) → (∀ n, n < offN cv k + s → I1 95 n = (wyN cv nd (pts p) n).1 ∧ I1 96 n = (wyN cv nd (pts p) n).2) → (∀ q, q < k + 1 → I1 97 q = nI (offN cv q)) → Z n0 xX13_findWays (d + 3) 0 0 166 [(0, .ref (n0 + 59)), (1, .int (nI p)), (2, .int (nI k)), (3, .int (nI (if k + 1 < pts p then k + 1 else 0))), (4, .long ((rx + I 73 (10 * p + k)) : Int32).toInt64), (6, .long ((ry + I 74 (10 * p + k)) : Int32).toInt64), (8, .int (nI s))] [] K I1 L (z_q0 K Q) := by
    intro k hkp hst rx ry hrx hry next w
    have hok := off_m (cv := cv) (show k + 1 ≤ pts p by omega)
    have eo : offN cv (k + 1) = offN cv k + stN cv k := rfl
    have hkn : (if k + 1 < pts p then k + 1 else 0) < pts p := by split <;> omega
    induction w with
    | zero =>
      intro s I1 hs1 hsw hI h61 hn h97
      have e : s = 8 := by omega
      subst e
      refine wp_X13_findWays_166 hM (iq (by decide) ?_)
      rw [← nI_succ]
      rw [hst] at eo
      rw [← eo] at h61 hn
      exact next I1 hI h61 hn h97
    | succ w ih =>
      intro s I1 hs1 hsw hI h61 hn h97
      have s8 : s < 8 := by omega
      have wk := wy_k (cv := cv) (nd := nd) (pts p) k s hkp (by omega)
      refine wp_X13_findWays_166 hM (ip (nI_lt (b := 8) (by omega) (by omega)) ⟨q_inn (by omega) (by omega), q_inn (by omega) (by omega), ?_⟩)
      rw [q_cl (n := k) (by omega), q_cl (n := if k + 1 < pts p then k + 1 else 0) (by omega), low hI 92 (by omega) (by omega), (hg k hkp).1, (hg _ hkn).1]
      refine c13_nd s8 hM (hb k hkp).1 (hb _ hkn).1 (hk k hkp).1 hrx (fun q eq => ⟨_, rfl, ?_⟩)
      have er : q = (nd k s).1 := by rw [← hnd]; exact eq
      rw [h61, q_cl (n := offN cv k + s) (by omega), low hI 93 (by omega) (by omega), (hg k hkp).2, (hg _ hkn).2]
      refine ⟨q_inn (by omega) (by omega), c13_nd s8 hM (hb k hkp).2 (hb _ hkn).2 (hk k hkp).2 hry (fun q2 eq2 => ⟨_, rfl, ?_⟩)⟩
      have er2 : q2 = (nd k s).2 := by rw [← hnd]; exact eq2
      rw [zI_r (show (59 : Nat) ≠ 95 by omega), h61, ← nI_succ, ← nI_succ]
      refine ⟨q_inn (by omega) (by omega), ih (s + 1) _ (by omega) (by omega) (((hI.z (Or.inr ⟨by omega, by omega⟩)).z (Or.inr ⟨by omega, by omega⟩)).z (Or.inl ⟨rfl, rfl⟩)) ?_ (fun n hnn => ?_) (fun q hq => ?_)⟩
      · rw [zI_s, Nat.add_assoc]
      · by_cases e : n = offN cv k + s
        · subst e
          rw [zI_d (by omega), zI_d (by omega), zI_s, zI_d (by omega), zI_s, wk, er, er2]
          exact ⟨rfl, rfl⟩
        · rw [zI_d (by omega), zI_d (by omega), zI_d (by omega), zI_d (by omega), zI_d (by omega), zI_d (by omega)]
          exact hn n (by omega)
      · rw [zI_d (by omega), zI_d (by omega), zI_d (by omega)]; exact h97 q hq
  intro w
  induction w with
  | zero =>
    intro k I1 hkw hI h61 hn h97
    have e : k = pts p := by omega
    subst e
    refine wp_X13_findWays_7 hM ⟨q_inn (by omega) (by omega), ?_⟩
    rw [q_cl (n := p) (by omega), low hI 67 (by omega) (by omega), h67, h61, q_cl (n := pts p) (by omega), q_cl (n := offN cv (pts p)) (by omega), low hI 92 (by omega) (by omega), low hI 93 (by omega) (by omega), (hg 0 (by omega)).1, (hg 0 (by omega)).2]
    refine iq (fun z => by have := q_lt.mp z; omega) ⟨q_inn (by omega) (by omega), q_inn (by omega) (by omega), h _ (((hI.z (Or.inr ⟨by omega, by omega⟩)).z (Or.inr ⟨by omega, by omega⟩)).z (Or.inr ⟨by omega, by omega⟩)) ?_ (fun n hnn => ?_) ⟨?_, ?_⟩ (fun q hq => ?_)⟩
    · rw [zI_d (by omega), zI_d (by omega), zI_d (by omega)]; exact h61
    · rw [zI_d (by omega), zI_d (by omega), zI_d (by omega), zI_d (by omega), zI_d (by omega), zI_d (by omega)]; exact hn n hnn
    · rw [zI_d (by omega), zI_s]
    · rw [zI_s]
    · by_cases e : q = pts p
      · rw [e, zI_d (by omega), zI_d (by omega), zI_s]
      · rw [zI_d (by omega), zI_d (by omega), zI_d (by omega)]; exact h97 q (by omega)
  | succ w ih =>
    intro k I1 hkw hI h61 hn h97
    have hkp : k < pts p := by omega
    have hst := st_b (cv := cv) k
    have hok := off_m (cv := cv) (show k + 1 ≤ pts p by omega)
    have eo : offN cv (k + 1) = offN cv k + stN cv k := rfl
    have hkn : (if k + 1 < pts p then k + 1 else 0) < pts p := by split <;> omega
    have en : (if nI (k + 1) < nI (pts p) then nI (k + 1) else 0) = nI (if k + 1 < pts p then k + 1 else 0) := by
      by_cases q : k + 1 < pts p
      · rw [if_pos q, if_pos (nI_lt q (by omega))]
      · rw [if_neg q, if_neg (fun z => q (by have := q_lt.mp z; rw [q_nI (by omega), q_nI (by omega)] at this; omega))]; rfl
    have wk := wy_k (cv := cv) (nd := nd) (pts p) k 0 hkp (by omega)
    have n0x : (nd k 0).1 = (g k).1 := by
      rw [← hnd]
      show Int32.ofInt (ndZ 0 _ _ _) = _
      rw [ndZ_0]; simp
    have n0y : (nd k 0).2 = (g k).2 := by
      rw [← hnd]
      show Int32.ofInt (ndZ 0 _ _ _) = _
      rw [ndZ_0]; simp
    refine wp_X13_findWays_7 hM ⟨q_inn (by omega) (by omega), ?_⟩
    rw [q_cl (n := p) (by omega), low hI 67 (by omega) (by omega), h67, h61, q_cl (n := k) (by omega), q_cl (n := offN cv k) (by omega), low hI 92 (by omega) (by omega), low hI 93 (by omega) (by omega), low hI 72 (by omega) (by omega), (hg k hkp).1, (hg k hkp).2, q_j10, q_cl (n := 10 * p + k) (by omega), ← nI_succ, en, q_cl (n := if k + 1 < pts p then k + 1 else 0) (by omega), ← nI_succ]
    refine ip (nI_lt (by omega) (by omega)) ⟨q_inn (by omega) (by omega), q_inn (by omega) (by omega), q_inn (by omega) (by omega), q_inn (by omega) (by omega), ?_⟩
    have hI2 : Fz fwS I (zI (zI (zI (zI I1 97 k (nI (offN cv k))) 95 (offN cv k) (g k).1) 96 (offN cv k) (g k).2) 59 61 (nI (offN cv k + 1))) := (((hI.z (Or.inr ⟨by omega, by omega⟩)).z (Or.inr ⟨by omega, by omega⟩)).z (Or.inr ⟨by omega, by omega⟩)).z (Or.inl ⟨rfl, rfl⟩)
    generalize hS : zI (zI (zI (zI I1 97 k (nI (offN cv k))) 95 (offN cv k) (g k).1) 96 (offN cv k) (g k).2) 59 61 (nI (offN cv k + 1)) = S at hI2 ⊢
    have s61 : S 59 61 = nI (offN cv k + 1) := by rw [← hS, zI_s]
    have sn : ∀ n, n < offN cv k + 1 → S 95 n = (wyN cv nd (pts p) n).1 ∧ S 96 n = (wyN cv nd (pts p) n).2 := fun n hnn => by
      by_cases e : n = offN cv k
      · subst e
        rw [Nat.add_zero] at wk
        rw [← hS, zI_d (by omega), zI_d (by omega), zI_s, zI_d (by omega), zI_s, wk, n0x, n0y]
        exact ⟨rfl, rfl⟩
      · rw [← hS, zI_d (by omega), zI_d (by omega), zI_d (by omega), zI_d (by omega), zI_d (by omega), zI_d (by omega), zI_d (by omega), zI_d (by omega)]
        exact hn n (by omega)
    have s97 : ∀ q, q < k + 1 → S 97 q = nI (offN cv q) := fun q hq => by
      by_cases e : q = k
      · subst e
        rw [← hS, zI_d (by omega), zI_d (by omega), zI_d (by omega), zI_s]
      · rw [← hS, zI_d (by omega), zI_d (by omega), zI_d (by omega), zI_d (by omega)]; exact h97 q (by omega)
    by_cases q : I 72 (10 * p + k) = 0
    · have st1 : stN cv k = 1 := by unfold stN; rw [hcv k hkp, if_neg (by simp [q])]
      rw [st1] at eo
      rw [← eo] at s61 sn
      exact ip q (ih (k + 1) S (by omega) hI2 s61 sn s97)
    · have st8 : stN cv k = 8 := by unfold stN; rw [hcv k hkp, if_pos (by simp [q])]
      have hbk := hb k hkp
      have hbn := hb _ hkn
      rw [(hg _ hkn).1]
      refine iq q ⟨q_inn (by omega) (by omega), c13_half hM (by rw [q_add (by omega) (by omega)]; omega) (fun rx hrx => ⟨_, rfl, ?_⟩)⟩
      rw [low hI2 93 (by omega) (by omega), (hg k hkp).2, (hg _ hkn).2]
      refine c13_half hM (by rw [q_add (by omega) (by omega)]; omega) (fun ry hry => ⟨_, rfl, ?_⟩)
      rw [low hI2 73 (by omega) (by omega), low hI2 74 (by omega) (by omega)]
      rw [q_add (by omega) (by omega)] at hrx hry
      exact inner k hkp st8 rx ry hrx hry (fun I2 a b c e => ih (k + 1) I2 (by omega) a b c e) 7 1 S (by omega) (by omega) hI2 s61 sn s97
theorem c13_findWays (hW : Wd K I np nr nb na t pid pts rid rp rk ln cx cy bid m par X Y A) (hp : p < np) (hg : ∀ k, k < pts p → I 92 k = (g k).1 ∧ I 93 k = (g k).2) (hb : bnP g (pts p)) (hk : bnK (fun k => I 73 (10 * p + k)) (fun k => I 74 (10 * p + k)) (pts p)) (hcv : ∀ k, k < pts p → cv k = decide (¬ I 72 (10 * p + k) = 0))
    (h : ∀ I', Fz fwS I I' → I' 59 61 = nI (offN cv (pts p)) → (∀ n, n < offN cv (pts p) → I' 95 n = (wyN cv (ndP g (fun k => I 73 (10 * p + k)) (fun k => I 74 (10 * p + k)) (pts p)) (pts p) n).1 ∧ I' 96 n = (wyN cv (ndP g (fun k => I 73 (10 * p + k)) (fun k => I 74 (10 * p + k)) (pts p)) (pts p) n).2) → (I' 95 (offN cv (pts p)) = (g 0).1 ∧ I' 96 (offN cv (pts p)) = (g 0).2) → (∀ k, k ≤ pts p → I' 97 k = nI (offN cv k)) → Q none I' L) : RM0 n0 xX13_findWays (d + 3) [.ref (n0 + 59), .int (nI p)] K I L Q := by
  have hz : Fz fwS I (zI I 59 61 0) := Fz.rfl'.z (Or.inl ⟨rfl, rfl⟩)
  have hnp := hW.2.2.2.1.n
  have hN := hW.2.2.2.2.1.2.2 p hp
  have k73 : zI I 59 61 0 73 = I 73 := zI_r (by omega)
  have k74 : zI I 59 61 0 74 = I 74 := zI_r (by omega)
  refine wp_X13_findWays hW.2.1 (c13_ways_l (I := zI I 59 61 0) (g := g) (cv := cv) (pts := pts) hW.2.1 (by rw [zI_r (by omega)]; exact hN.2.1) (by omega) hN.2.2 (fun k hkp => by rw [zI_r (by omega), zI_r (by omega)]; exact hg k hkp) hb (by rw [k73, k74]; exact hk) (fun k hkp => by rw [zI_r (by omega)]; exact hcv k hkp) (fun I' a b c e f => ?_) (pts p) 0 _ (by omega) Fz.rfl' zI_s (fun n hn => absurd hn (by show ¬ n < 0; omega)) (fun q hq => absurd hq (by omega)))
  rw [k73, k74] at c
  exact h I' (hz.trans a) b c e f
end FWS
