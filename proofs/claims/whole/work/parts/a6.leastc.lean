/-! the component's least moves -/
/-- the conditions on both sides -/
def CoD (I : z_I) (nc : Nat) : Prop := nc ≤ 2 ∧ I 22 2 = nI nc ∧ I 59 77 = nI nc ∧ (∀ j, j < 12 → I 23 j = I 110 j) ∧ (∀ j, j < 2 → I 24 j = I 111 j) ∧ cdB (I 110) (I 111)
/-- the greatest divisor of both -/
def lsG (tp bt : Int64) : Int64 := nL (Nat.gcd bt.toInt.toNat tp.toInt.natAbs)
section LSC
variable {n0 d : Nat} {K : z_K} {I : z_I} {L : z_L} {Q : z_q} {nc i k l : Nat} {tp bt : Int64}
theorem q_m32 {x y : Int32} (hx : -99 ≤ x.toInt ∧ x.toInt ≤ 99) (hy : -99 ≤ y.toInt ∧ y.toInt ≤ 99) : (x * y).toInt64 = x.toInt64 * y.toInt64 := by
  have m := mul_b (a := x.toInt) (b := y.toInt) (A := 99) (B := 99) (by omega) (by omega) (by omega) (by omega)
  refine Int64.toInt_inj.mp ?_
  rw [q_i2l, q_m64, q_mul (by omega) (by omega)]
theorem c1_product (hC : CLay K) (hc : CoD I nc) (hk : k ≤ 1) (hl : l ≤ 1) (h : Q (some (.long (prL (I 110) k l 6))) I L) : RM0 n0 xX1_product d [.ref (n0 + 22), .int (nI k), .int (nI l)] K I L Q := by
  obtain ⟨_, _, _, hf, _, hb⟩ := hc
  have lp : ∀ w j, j + w = 6 → Z n0 xX1_product d 0 0 5 [(0, .ref (n0 + 22)), (1, .int (nI k)), (2, .int (nI l)), (3, .long (prL (I 110) k l j)), (5, .int (nI j))] [] K I L (z_q0 K Q) := by
    intro w
    induction w with
    | zero =>
      intro j hj
      have : j = 6 := by omega
      subst this
      exact wp_X1_product_5 hC (iq (by decide) h)
    | succ w ih =>
      intro j hj
      have x1 : nI k * 6 + nI j = nI (6 * k + j) := by rw [show nI k * 6 = nI (k * 6) from q_nmul (b := 6), q_nadd, Nat.mul_comm]
      have x2 : nI l * 6 + nI j = nI (6 * l + j) := by rw [show nI l * 6 = nI (l * 6) from q_nmul (b := 6), q_nadd, Nat.mul_comm]
      refine wp_X1_product_5 hC (ip (nI_lt (b := 6) (by omega) (by omega)) ?_)
      rw [x1, x2, q_cl (n := 6 * k + j) (by omega), q_cl (n := 6 * l + j) (by omega), hf _ (by omega), hf _ (by omega), q_m32 (hb.1 _ (by omega)) (hb.1 _ (by omega)), ← nI_succ]
      exact ⟨q_inn (by omega) (by omega), q_inn (by omega) (by omega), ih (j + 1) (by omega)⟩
  exact wp_X1_product hC (lp 6 0 (by omega))
theorem l_neg {x : Int64} (h : -4611686018427387904 ≤ x.toInt ∧ x.toInt ≤ 4611686018427387904) : (-x).toInt = -x.toInt := by
  rw [Int64.toInt_neg]
  exact Int.bmod_eq_of_le (by omega) (by omega)
theorem l_abs {x : Int64} (h : bdL x 1099511627776) : (if 0 < x then x else -x) = nL x.toInt.natAbs ∧ (if x < 0 then -x else x) = nL x.toInt.natAbs := by
  unfold bdL at h
  have e0 : (0 : Int64).toInt = 0 := rfl
  have ng := l_neg (x := x) (by omega)
  constructor
  · by_cases g : 0 < x
    · rw [if_pos g]
      have := q_ltL.mp g
      refine Int64.toInt_inj.mp ?_
      rw [nL_i (by omega)]; omega
    · rw [if_neg g]
      have : ¬ (0 : Int64).toInt < x.toInt := fun z => g (q_ltL.mpr z)
      refine Int64.toInt_inj.mp ?_
      rw [nL_i (by omega), ng]; omega
  · by_cases g : x < 0
    · rw [if_pos g]
      have := q_ltL.mp g
      refine Int64.toInt_inj.mp ?_
      rw [nL_i (by omega), ng]; omega
    · rw [if_neg g]
      have : ¬ x.toInt < (0 : Int64).toInt := fun z => g (q_ltL.mpr z)
      refine Int64.toInt_inj.mp ?_
      rw [nL_i (by omega)]; omega
theorem lsG_p (hb : 0 < bt.toInt ∧ bt.toInt ≤ 1099511627776) : ¬ lsG tp bt = 0 := by
  unfold lsG
  have h1 : 0 < Nat.gcd bt.toInt.toNat tp.toInt.natAbs := Nat.gcd_pos_of_pos_left _ (by omega)
  have h2 : Nat.gcd bt.toInt.toNat tp.toInt.natAbs ≤ bt.toInt.toNat := Nat.gcd_le_left _ (by omega)
  intro z
  have := (nL_z (by omega)).mp z
  omega
theorem c1_setFraction (hC : CLay K) (ht : bdL tp 1099511627776) (hb : 0 < bt.toInt ∧ bt.toInt ≤ 1099511627776) (h : Q none I (zL (zL L 22 3 (tp / lsG tp bt)) 22 4 (bt / lsG tp bt))) : RM0 n0 xX1_setFraction (d + 1) [.ref (n0 + 22), .long tp, .long bt] K I L Q := by
  have lp : ∀ f k dd r, k + f = 128 → dd < 2 ^ 63 → r < 2 ^ 63 → 0 < euF f dd r → euF f dd r < 2 ^ 63 → Q none I (zL (zL L 22 3 (tp / nL (euF f dd r))) 22 4 (bt / nL (euF f dd r))) → Z n0 xX1_setFraction (d + 1) 0 0 12 [(0, .ref (n0 + 22)), (1, .long tp), (3, .long bt), (5, .long (nL dd)), (7, .long (nL r)), (9, .int (nI k))] [] K I L (z_q0 K Q) := by
    intro f
    induction f with
    | zero =>
      intro k dd r hk h1 h2 h3 h4 h
      have : k = 128 := by omega
      subst this
      have nz : ¬ nL dd = 0 := fun z => by have := (nL_z h1).mp z; have : 0 < dd := h3; omega
      exact wp_X1_setFraction_12 hC (iq (by decide) (iq nz ⟨nz, h⟩))
    | succ f ih =>
      intro k dd r hk h1 h2 h3 h4 h
      refine wp_X1_setFraction_12 hC (ip (nI_lt (b := 128) (by omega) (by omega)) ?_)
      by_cases g : r = 0
      · have e : euF (f + 1) dd r = dd := by show (if r = 0 then dd else _) = dd; rw [if_pos g]
        rw [e] at h h3
        have nz : ¬ nL dd = 0 := fun z => by have := (nL_z h1).mp z; omega
        exact ip (by rw [g]; rfl) (iq nz ⟨nz, h⟩)
      · have e : euF (f + 1) dd r = euF f r (dd % r) := by show (if r = 0 then dd else _) = _; rw [if_neg g]
        rw [e] at h h3 h4
        have nz : ¬ nL r = 0 := fun z => g ((nL_z h2).mp z)
        refine iq nz ⟨nz, ?_⟩
        rw [nL_mod h1 h2 (by omega), ← nI_succ]
        have : dd % r < r := Nat.mod_lt _ (by omega)
        exact ih (k + 1) r (dd % r) (by omega) h2 (by omega) h3 h4 h
  have e1 : bt = nL bt.toInt.toNat := nL_of (by omega)
  have hta : tp.toInt.natAbs < 2 ^ 62 := by unfold bdL at ht; omega
  have eg : euF 128 bt.toInt.toNat tp.toInt.natAbs = Nat.gcd bt.toInt.toNat tp.toInt.natAbs := eu_ok 62 128 _ _ hta (by omega)
  have h1 : 0 < Nat.gcd bt.toInt.toNat tp.toInt.natAbs := Nat.gcd_pos_of_pos_left _ (by omega)
  have h2 : Nat.gcd bt.toInt.toNat tp.toInt.natAbs ≤ bt.toInt.toNat := Nat.gcd_le_left _ (by omega)
  have st := lp 128 0 bt.toInt.toNat tp.toInt.natAbs (by omega) (by omega) (by omega) (by rw [eg]; exact h1) (by rw [eg]; omega) (by rw [eg]; exact h)
  refine wp_X1_setFraction hC ?_
  rw [(l_abs ht).1]
  rw [← e1] at st
  exact st
theorem c1_solveOne {c : Nat} (hC : CLay K) (hc : CoD I nc) (hr : c ≤ 1) (hi : i < 6) (hL : L 22 3 = 0 ∧ L 22 4 = 1)
    (hn : ls1 (I 110) (I 111) c i = none → Q (some (.int 0)) I L)
    (hs : ∀ tp bt L', ls1 (I 110) (I 111) c i = some (tp, bt) → L' 22 3 = tp / lsG tp bt → L' 22 4 = bt / lsG tp bt → Q (some (.int 1)) I L') : RM0 n0 xX1_solveOne (d + 2) [.ref (n0 + 22), .int (nI c), .int (nI i)] K I L Q := by
  have hc' := hc
  obtain ⟨_, _, _, hf, hg, hb⟩ := hc
  refine wp_X1_solveOne hC (c1_product hC hc' hr hr ⟨_, rfl, ?_⟩)
  by_cases z : prL (I 110) c c 6 = 0
  · refine ip z ⟨q_inn (by omega) (by omega), ?_⟩
    rw [q_cl (by omega), hg _ (by omega)]
    unfold ls1 at hn hs
    rw [if_pos z] at hn hs
    by_cases y : I 111 c = 0
    · rw [if_pos y] at hn hs ⊢
      exact hs 0 1 L rfl (by rw [hL.1]; rfl) (by rw [hL.2]; rfl)
    · rw [if_neg y] at hn hs ⊢
      exact hn rfl
  · have x1 : nI c * 6 + nI i = nI (6 * c + i) := by rw [show nI c * 6 = nI (c * 6) from q_nmul (b := 6), q_nadd, Nat.mul_comm]
    refine iq z ?_
    rw [x1, q_cl (n := 6 * c + i) (by omega), q_cl (n := c) (by omega), hf _ (by omega), hg _ (by omega)]
    have e : ls1 (I 110) (I 111) c i = some ((I 110 (6 * c + i)).toInt64 * (I 111 c).toInt64, prL (I 110) c c 6) := by unfold ls1; rw [if_neg z]
    have b := ls1_b hb hr hi e
    exact ⟨q_inn (by omega) (by omega), q_inn (by omega) (by omega), c1_setFraction (d := d) hC b.1 b.2 ⟨rfl, hs _ _ _ e (by unfold zL; simp) (by unfold zL; simp)⟩⟩
theorem c1_agree (hC : CLay K) (hc : CoD I nc) (h : Q (some (.int (if agP (I 110) (I 111) then 1 else 0))) I L) : RM0 n0 xX1_agree d [.ref (n0 + 22), .long (prL (I 110) 0 0 6), .long (prL (I 110) 1 1 6)] K I L Q := by
  obtain ⟨_, _, _, hf, hg, hb⟩ := hc
  have no : ¬ agP (I 110) (I 111) → Q (some (.int 0)) I L := fun z => by rw [if_neg z] at h; exact h
  have lp : (prL (I 110) 0 0 6 = 0 → I 111 0 = 0) → (prL (I 110) 1 1 6 = 0 → I 111 1 = 0) → ∀ w j, j + w = 6 → (∀ q, q < j → I 110 q * I 111 1 = I 110 (6 + q) * I 111 0) → Z n0 xX1_agree d 0 0 35 [(0, .ref (n0 + 22)), (5, .int (nI j))] [] K I L (z_q0 K Q) := by
    intro a1 a2 w
    induction w with
    | zero =>
      intro j hj v
      have : j = 6 := by omega
      subst this
      rw [if_pos (show agP (I 110) (I 111) from ⟨a1, a2, v⟩)] at h
      exact wp_X1_agree_35 hC (iq (by decide) h)
    | succ w ih =>
      intro j hj v
      have x1 : (6 : Int32) + nI j = nI (6 + j) := q_nadd (a := 6)
      refine wp_X1_agree_35 hC (ip (nI_lt (b := 6) (by omega) (by omega)) ?_)
      rw [x1, q_cl (n := j) (by omega), q_cl (n := 6 + j) (by omega), hf _ (by omega), hf _ (by omega), hg _ (by omega), hg _ (by omega), ← nI_succ]
      refine ⟨q_inn (by omega) (by omega), q_inn (by omega) (by omega), ?_⟩
      by_cases g : I 110 j * I 111 1 = I 110 (6 + j) * I 111 0
      · refine ip g (ih (j + 1) (by omega) (fun q hq => ?_))
        by_cases e : q = j
        · subst e; exact g
        · exact v q (by omega)
      · exact iq g (no (fun z => g (z.2.2 j (by omega))))
  refine wp_X1_agree hC ?_
  rw [hg 0 (by omega), hg 1 (by omega)]
  by_cases z0 : prL (I 110) 0 0 6 = 0
  · refine ip z0 ?_
    by_cases y0 : I 111 0 = 0
    · refine ip y0 ?_
      by_cases z1 : prL (I 110) 1 1 6 = 0
      · refine ip z1 ?_
        by_cases y1 : I 111 1 = 0
        · exact ip y1 (lp (fun _ => y0) (fun _ => y1) 6 0 (by omega) (fun q hq => by omega))
        · exact iq y1 (no (fun z => y1 (z.2.1 z1)))
      · exact iq z1 (lp (fun _ => y0) (fun z => absurd z z1) 6 0 (by omega) (fun q hq => by omega))
    · exact iq y0 (no (fun z => y0 (z.1 z0)))
  · refine iq z0 ?_
    by_cases z1 : prL (I 110) 1 1 6 = 0
    · refine ip z1 ?_
      by_cases y1 : I 111 1 = 0
      · exact ip y1 (lp (fun z => absurd z z0) (fun _ => y1) 6 0 (by omega) (fun q hq => by omega))
      · exact iq y1 (no (fun z => y1 (z.2.1 z1)))
    · exact iq z1 (lp (fun z => absurd z z0) (fun z => absurd z z1) 6 0 (by omega) (fun q hq => by omega))
theorem c1_solve (hC : CLay K) (hc : CoD I nc) (hi : i < 6)
    (hn : ∀ L', lsT (I 110) (I 111) nc i = none → Q (some (.int 0)) I L')
    (hs : ∀ tp bt L', lsT (I 110) (I 111) nc i = some (tp, bt) → L' 22 3 = tp / lsG tp bt → L' 22 4 = bt / lsG tp bt → Q (some (.int 1)) I L') : RM0 n0 xX1_solve (d + 3) [.ref (n0 + 22), .int (nI i)] K I L Q := by
  have hc' := hc
  obtain ⟨h2, h22, _, hf, hg, hb⟩ := hc
  have l3 : (zL (zL L 22 3 0) 22 4 1) 22 3 = 0 := by unfold zL; simp
  have l4 : (zL (zL L 22 3 0) 22 4 1) 22 4 = 1 := by unfold zL; simp
  refine wp_X1_solve hC ?_
  rw [h22]
  have hx : nc = 0 ∨ nc = 1 ∨ nc = 2 := by omega
  rcases hx with e | e | e
  · subst e
    exact ip rfl (hs 0 1 _ rfl (by rw [l3]; rfl) (by rw [l4]; rfl))
  · subst e
    refine iq (by decide) (ip rfl (c1_solveOne (c := 0) (d := d) hC hc' (by omega) hi ⟨l3, l4⟩ (fun z => ⟨_, rfl, Or.inl rfl, hn _ z⟩) (fun tp bt L' z a b => ⟨_, rfl, Or.inr rfl, hs tp bt L' z a b⟩)))
  · subst e
    refine iq (by decide) (iq (by decide) (c1_product (k := 0) (l := 0) hC hc' (by omega) (by omega) ⟨_, rfl, c1_product (k := 0) (l := 1) hC hc' (by omega) (by omega) ⟨_, rfl, c1_product (k := 1) (l := 1) hC hc' (by omega) (by omega) ⟨_, rfl, ?_⟩⟩⟩))
    have eT : lsT (I 110) (I 111) 2 i = if alL (I 110) = 0 then (if agP (I 110) (I 111) then ls1 (I 110) (I 111) (if prL (I 110) 0 0 6 = 0 then 1 else 0) i else none) else some ((prL (I 110) 1 1 6 * (I 111 0).toInt64 - prL (I 110) 0 1 6 * (I 111 1).toInt64) * (I 110 i).toInt64 + (prL (I 110) 0 0 6 * (I 111 1).toInt64 - prL (I 110) 0 1 6 * (I 111 0).toInt64) * (I 110 (6 + i)).toInt64, alL (I 110)) := rfl
    by_cases z : alL (I 110) = 0
    · rw [eT, if_pos z] at hn hs
      refine ip z (c1_agree hC hc' ⟨_, rfl, ?_⟩)
      by_cases a : agP (I 110) (I 111)
      · rw [if_pos a] at hn hs
        rw [if_pos a]
        refine iq (by decide) ?_
        by_cases y : prL (I 110) 0 0 6 = 0
        · rw [if_pos y] at hn hs
          exact ip y (c1_solveOne (c := 1) (d := d) hC hc' (by omega) hi ⟨l3, l4⟩ (fun z => ⟨_, rfl, by rw [if_pos rfl]; exact hn _ z⟩) (fun tp bt L' z a b => ⟨_, rfl, by rw [if_neg (by decide)]; exact hs tp bt L' z a b⟩))
        · rw [if_neg y] at hn hs
          exact iq y (c1_solveOne (c := 0) (d := d) hC hc' (by omega) hi ⟨l3, l4⟩ (fun z => ⟨_, rfl, by rw [if_pos rfl]; exact hn _ z⟩) (fun tp bt L' z a b => ⟨_, rfl, by rw [if_neg (by decide)]; exact hs tp bt L' z a b⟩))
      · rw [if_neg a] at hn
        rw [if_neg a]
        exact ip rfl (hn _ rfl)
    · have b := lsT_b (nc := 2) hb hi (by rw [eT, if_neg z])
      rw [eT, if_neg z] at hs
      have x1 : (6 : Int32) + nI i = nI (6 + i) := q_nadd (a := 6)
      refine iq z ?_
      rw [x1, q_cl (n := i) (by omega), q_cl (n := 6 + i) (by omega), hf _ (by omega), hf _ (by omega), hg _ (by omega), hg _ (by omega), Int64.mul_comm (I 110 i).toInt64, Int64.mul_comm (I 110 (6 + i)).toInt64]
      exact ⟨q_inn (by omega) (by omega), q_inn (by omega) (by omega), c1_setFraction (d := d + 1) hC b.1 b.2 ⟨rfl, hs _ _ _ rfl (by unfold zL; simp; rfl) (by unfold zL; simp; rfl)⟩⟩
end LSC
