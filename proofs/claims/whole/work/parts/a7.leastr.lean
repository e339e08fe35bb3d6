/-! the reference's least moves -/
def OpL0 (n0 : Nat) (xc xr : z_X) (d dr : Nat) (As : List Value) (K : z_K) (I : z_I) (L : z_L) (P : z_I → z_L → Prop) : Prop :=
  RM0 n0 xc d (.ref (n0 + 0) :: As) K I L (fun v I1 L1 => ∃ r : Int64, v = some (.long r) ∧ OpRL n0 xr dr As K I1 L1 P r)
section LSR
variable {n0 d dd dr : Nat} {K : z_K} {I : z_I} {L : z_L} {Q : z_q} {nc i k l : Nat} {tp bt : Int64} {P : z_I → z_L → Prop} {p0 p1 : Int32}
theorem op_rfLA {xr : z_X} {As : List Value} {w : Int32} (k : Nat) (hC : CLay K) (h1 : 1 ≤ k) (h7 : k ≤ 7) (hw : w.toInt = -(k : Int)) (h : OpRL n0 xr dr As K (zI I 1 k (I 1 k + 1)) L P (1000000000 - w).toInt64) :
    RM0 n0 xX12_refuseApart (dd + 1) [.ref (n0 + 0), .int w] K I L (fun vv I6 L7 => ∃ r8 : Int32, vv = some (.int r8) ∧ ∃ r : Int64, some (Value.long r8.toInt64) = some (.long r) ∧ OpRL n0 xr dr As K I6 L7 P r) :=
  c12_refuseApart k hC h1 h7 hw ⟨_, rfl, _, rfl, h⟩
theorem op_rrLA {w : Int32} (k : Nat) (hM : MLay K) (h7 : k ≤ 7) (hw : w.toInt = -(k : Int)) (h : P (zI I 75 k (I 75 k + 1)) L) :
    RM0 n0 xX13_refuseFar dd [.ref (n0 + 59), .int w] K I L (fun vv I6 L7 => ∃ r8 : Int32, vv = some (.int r8) ∧ (some (Value.long r8.toInt64) = some (Value.long (1000000000 - w).toInt64) ∧ P I6 L7)) :=
  c13_refuseFar k hM h7 hw ⟨_, rfl, rfl, h⟩
theorem c13_product (hM : MLay K) (hk : k ≤ 1) (hl : l ≤ 1) (h : Q (some (.long (prL (I 110) k l 6))) I L) : RM0 n0 xX13_product d [.ref (n0 + 59), .int (nI k), .int (nI l)] K I L Q := by
  have lp : ∀ w j, j + w = 6 → Z n0 xX13_product d 0 0 5 [(0, .ref (n0 + 59)), (1, .int (nI k)), (2, .int (nI l)), (3, .long (prL (I 110) k l j)), (5, .int (nI j))] [] K I L (z_q0 K Q) := by
    intro w
    induction w with
    | zero =>
      intro j hj
      have : j = 6 := by omega
      subst this
      exact wp_X13_product_5 hM (iq (by decide) h)
    | succ w ih =>
      intro j hj
      have x1 : (6 : Int32) * nI k + nI j = nI (6 * k + j) := by rw [show (6 : Int32) * nI k = nI (6 * k) from q_nmul (a := 6), q_nadd]
      have x2 : (6 : Int32) * nI l + nI j = nI (6 * l + j) := by rw [show (6 : Int32) * nI l = nI (6 * l) from q_nmul (a := 6), q_nadd]
      refine wp_X13_product_5 hM (ip (nI_lt (b := 6) (by omega) (by omega)) ?_)
      rw [x1, x2, q_cl (n := 6 * k + j) (by omega), q_cl (n := 6 * l + j) (by omega), ← nI_succ]
      exact ⟨q_inn (by omega) (by omega), q_inn (by omega) (by omega), ih (j + 1) (by omega)⟩
  exact wp_X13_product hM (lp 6 0 (by omega))
theorem c13_divisor (hM : MLay K) (ht : bdL tp 1099511627776) (hb : 0 < bt.toInt ∧ bt.toInt ≤ 1099511627776) (h : Q (some (.long (lsG tp bt))) I L) : RM0 n0 xX13_divisor d [.long tp, .long bt] K I L Q := by
  have lp : ∀ m y x, y ≤ m → x < 2 ^ 63 → y < 2 ^ 63 → Q (some (.long (nL (Nat.gcd x y)))) I L → Z n0 xX13_divisor d 0 0 17 [(4, .long (nL x)), (6, .long (nL y))] [] K I L (z_q0 K Q) := by
    intro m
    induction m with
    | zero =>
      intro y x hy h1 h2 h
      have : y = 0 := Nat.le_zero.mp hy
      subst this
      rw [Nat.gcd_zero_right] at h
      exact wp_X13_divisor_17 hM (ip rfl h)
    | succ m ih =>
      intro y x hy h1 h2 h
      refine wp_X13_divisor_17 hM ?_
      by_cases g : y = 0
      · subst g
        rw [Nat.gcd_zero_right] at h
        exact ip rfl h
      · have nz : ¬ nL y = 0 := fun z => g ((nL_z h2).mp z)
        refine iq nz ⟨nz, ?_⟩
        rw [nL_mod h1 h2 (by omega)]
        have : x % y < y := Nat.mod_lt _ (by omega)
        exact ih (x % y) y (by omega) h2 (by omega) (by rw [← gcd_st]; exact h)
  have e1 : bt = nL bt.toInt.toNat := nL_of (by omega)
  unfold lsG at h
  rw [Nat.gcd_comm] at h
  have st := lp bt.toInt.toNat bt.toInt.toNat tp.toInt.natAbs (Nat.le_refl _) (by unfold bdL at ht; omega) (by omega) h
  rw [← e1, ← (l_abs ht).2] at st
  refine wp_X13_divisor hM ?_
  by_cases g : tp < 0
  · rw [if_pos g] at st
    exact ip g st
  · rw [if_neg g] at st
    exact iq g st
/-- what leastOfOne leaves -/
def lo1 (I : z_I) (L : z_L) (c : Nat) : Prop := L 59 81 = (if prL (I 110) c c 6 = 0 then 1 else prL (I 110) c c 6) ∧ ∀ i, i < 6 → L 112 i = if prL (I 110) c c 6 = 0 then 0 else (I 110 (6 * c + i)).toInt64 * (I 111 c).toInt64
theorem c13_leastOfOne {c : Nat} (hM : MLay K) (hc : c ≤ 1) (h : ∀ L', lo1 I L' c → Q none I L') : RM0 n0 xX13_leastOfOne (d + 1) [.ref (n0 + 59), .int (nI c)] K I L Q := by
  have lp : ∀ w j L1, j + w = 6 → L1 59 81 = (if prL (I 110) c c 6 = 0 then 1 else prL (I 110) c c 6) → (∀ i, i < j → L1 112 i = if prL (I 110) c c 6 = 0 then 0 else (I 110 (6 * c + i)).toInt64 * (I 111 c).toInt64) → Z n0 xX13_leastOfOne (d + 1) 0 0 25 [(0, .ref (n0 + 59)), (1, .int (nI c)), (2, .long (prL (I 110) c c 6)), (4, .int (nI j))] [] K I L1 (z_q0 K Q) := by
    intro w
    induction w with
    | zero =>
      intro j L1 hj e1 v1
      have : j = 6 := by omega
      subst this
      exact wp_X13_leastOfOne_25 hM (iq (by decide) (h L1 ⟨e1, v1⟩))
    | succ w ih =>
      intro j L1 hj e1 v1
      have x1 : (6 : Int32) * nI c + nI j = nI (6 * c + j) := by rw [show (6 : Int32) * nI c = nI (6 * c) from q_nmul (a := 6), q_nadd]
      refine wp_X13_leastOfOne_25 hM (ip (nI_lt (b := 6) (by omega) (by omega)) ?_)
      rw [x1, q_cl (n := j) (by omega), q_cl (n := 6 * c + j) (by omega), q_cl (n := c) (by omega), ← nI_succ]
      by_cases z : prL (I 110) c c 6 = 0
      · refine ip z ⟨q_inn (by omega) (by omega), ih (j + 1) _ (by omega) (by rw [zL_d (by omega)]; exact e1) (fun q hq => ?_)⟩
        by_cases e : q = j
        · subst e; rw [zL_s, if_pos z]
        · rw [zL_d (by omega)]; exact v1 q (by omega)
      · refine iq z ⟨q_inn (by omega) (by omega), q_inn (by omega) (by omega), q_inn (by omega) (by omega), ih (j + 1) _ (by omega) (by rw [zL_d (by omega)]; exact e1) (fun q hq => ?_)⟩
        by_cases e : q = j
        · subst e; rw [zL_s, if_neg z]
        · rw [zL_d (by omega)]; exact v1 q (by omega)
  refine wp_X13_leastOfOne hM (c13_product hM hc hc ⟨_, rfl, ?_⟩)
  by_cases z : prL (I 110) c c 6 = 0
  · exact ip z (lp 6 0 _ (by omega) (by rw [zL_s, if_pos z]) (fun q hq => by omega))
  · exact iq z (lp 6 0 _ (by omega) (by rw [zL_s, if_neg z]) (fun q hq => by omega))
theorem lo1_t {c : Nat} {L' : z_L} (hc : c ≤ 1) (hg : prL (I 110) c c 6 = 0 → I 111 c = 0) (h : lo1 I L' c) : ∀ i, i < 6 → ls1 (I 110) (I 111) c i = some (L' 112 i, L' 59 81) := by
  intro i hi
  obtain ⟨h1, h2⟩ := h
  rw [h1, h2 i hi]
  unfold ls1
  by_cases z : prL (I 110) c c 6 = 0
  · rw [if_pos z, if_pos (hg z), if_pos z, if_pos z]
  · rw [if_neg z, if_neg z, if_neg z]
theorem ag_eq (hb : cdB (I 110) (I 111)) {j : Nat} (hj : j < 6) : ((I 111 0).toInt64 * (I 110 (6 + j)).toInt64 = (I 111 1).toInt64 * (I 110 j).toInt64) ↔ I 110 j * I 111 1 = I 110 (6 + j) * I 111 0 := by
  have f0 := hb.1 j (by omega)
  have f1 := hb.1 (6 + j) (by omega)
  have g0 := hb.2 0 (by omega)
  have g1 := hb.2 1 (by omega)
  have m1 := mul_b (a := (I 110 j).toInt) (b := (I 111 1).toInt) (A := 99) (B := 9999) (by omega) (by omega) (by omega) (by omega)
  have m2 := mul_b (a := (I 110 (6 + j)).toInt) (b := (I 111 0).toInt) (A := 99) (B := 9999) (by omega) (by omega) (by omega) (by omega)
  rw [← Int64.toInt_inj, q_m64, q_m64, q_eq, q_mul (by omega) (by omega), q_mul (by omega) (by omega), Int.mul_comm (I 111 0).toInt, Int.mul_comm (I 111 1).toInt]
  exact ⟨fun z => z.symm, fun z => z.symm⟩
theorem c13_findLeast (hM : MLay K) (hc : CoD I nc)
    (hn : ∀ L', (∀ i, i < 6 → lsT (I 110) (I 111) nc i = none) → Q (some (.int 0)) I L')
    (hs : ∀ L', (∀ i, i < 6 → lsT (I 110) (I 111) nc i = some (L' 112 i, L' 59 81)) → Q (some (.int 1)) I L') : RM0 n0 xX13_findLeast (d + 2) [.ref (n0 + 59)] K I L Q := by
  obtain ⟨h2, _, h77, hf, hg, hb⟩ := hc
  have e0 : (0 : Int64).toInt = 0 := rfl
  have pos : ∀ c, c ≤ 1 → (0 < prL (I 110) c c 6 ↔ ¬ prL (I 110) c c 6 = 0) := fun c hc => by rw [← prL_p hb hc]; exact q_ltL
  have l7 : (∀ L1 : z_L, L1 59 81 = 1 → (∀ i, i < 6 → L1 112 i = 0) → Z n0 xX13_findLeast (d + 2) 0 0 30 [(0, .ref (n0 + 59)), (1, .int 1), (2, .int (nI 0))] [] K I L1 (z_q0 K Q)) → ∀ w j L1, j + w = 6 → L1 59 81 = 1 → (∀ i, i < j → L1 112 i = 0) → Z n0 xX13_findLeast (d + 2) 0 0 7 [(0, .ref (n0 + 59)), (1, .int (nI j))] [] K I L1 (z_q0 K Q) := by
    intro nx w
    induction w with
    | zero =>
      intro j L1 hj e1 v1
      have : j = 6 := by omega
      subst this
      exact wp_X13_findLeast_7 hM (iq (by decide) (nx L1 e1 v1))
    | succ w ih =>
      intro j L1 hj e1 v1
      refine wp_X13_findLeast_7 hM (ip (nI_lt (b := 6) (by omega) (by omega)) ⟨q_inn (by omega) (by omega), ?_⟩)
      rw [q_cl (by omega), ← nI_succ]
      refine ih (j + 1) _ (by omega) (by rw [zL_d (by omega)]; exact e1) (fun q hq => ?_)
      by_cases e : q = j
      · subst e; exact zL_s
      · rw [zL_d (by omega)]; exact v1 q (by omega)
  refine wp_X13_findLeast hM (l7 (fun L1 e1 v1 => ?_) 6 0 _ (by omega) zL_s (fun q hq => by omega))
  -- one condition more
  have st : ∀ c L1, c < nc → (∀ b : Int32, b = (if prL (I 110) c c 6 = 0 ∧ ¬ I 111 c = 0 then 0 else 1) → Z n0 xX13_findLeast (d + 2) 0 0 30 [(0, .ref (n0 + 59)), (1, .int b), (2, .int (nI (c + 1)))] [] K I L1 (z_q0 K Q)) → Z n0 xX13_findLeast (d + 2) 0 0 30 [(0, .ref (n0 + 59)), (1, .int 1), (2, .int (nI c))] [] K I L1 (z_q0 K Q) := by
    intro c L1 hc nx
    refine wp_X13_findLeast_30 hM ?_
    rw [h77]
    refine ip (nI_lt hc (by omega)) (iq (by decide) (c13_product hM (by omega) (by omega) ⟨_, rfl, ?_⟩))
    rw [← nI_succ]
    by_cases z : prL (I 110) c c 6 = 0
    · refine iq (fun y => (pos c (by omega)).mp y z) ⟨q_inn (by omega) (by omega), ?_⟩
      rw [q_cl (by omega)]
      refine nx _ ?_
      by_cases y : I 111 c = 0
      · rw [if_pos y, if_neg (fun w => w.2 y)]
      · rw [if_neg y, if_pos ⟨z, y⟩]
    · exact ip ((pos c (by omega)).mpr z) (nx 1 (by rw [if_neg (fun w => z w.1)]))
  have hx : nc = 0 ∨ nc = 1 ∨ nc = 2 := by omega
  rcases hx with e | e | e
  · subst e
    refine wp_X13_findLeast_30 hM ?_
    rw [h77]
    refine iq (by decide) (iq (by decide) (ip (by decide) ⟨Or.inr rfl, hs L1 (fun i hi => ?_)⟩))
    rw [e1, v1 i hi]
    rfl
  · subst e
    refine st 0 L1 (by omega) (fun b eb => ?_)
    refine wp_X13_findLeast_30 hM ?_
    rw [h77]
    refine iq (by decide) (ip rfl (c13_leastOfOne (c := 0) (d := d) hM (by omega) (fun L2 l2 => ⟨rfl, ?_⟩)))
    rw [h77]
    by_cases z : prL (I 110) 0 0 6 = 0 ∧ ¬ I 111 0 = 0
    · rw [if_pos z] at eb
      subst eb
      refine ip (by decide) ⟨Or.inl rfl, hn L2 (fun i hi => ?_)⟩
      show ls1 (I 110) (I 111) 0 i = none
      unfold ls1
      rw [if_pos z.1, if_neg z.2]
    · rw [if_neg z] at eb
      subst eb
      exact ip (by decide) ⟨Or.inr rfl, hs L2 (lo1_t (by omega) (fun y => Classical.byContradiction (fun n => z ⟨y, n⟩)) l2)⟩
  · subst e
    refine st 0 L1 (by omega) (fun b eb => ?_)
    have eT : ∀ i, lsT (I 110) (I 111) 2 i = if alL (I 110) = 0 then (if agP (I 110) (I 111) then ls1 (I 110) (I 111) (if prL (I 110) 0 0 6 = 0 then 1 else 0) i else none) else some ((prL (I 110) 1 1 6 * (I 111 0).toInt64 - prL (I 110) 0 1 6 * (I 111 1).toInt64) * (I 110 i).toInt64 + (prL (I 110) 0 0 6 * (I 111 1).toInt64 - prL (I 110) 0 1 6 * (I 111 0).toInt64) * (I 110 (6 + i)).toInt64, alL (I 110)) := fun i => rfl
    have bad : (∃ c, c ≤ 1 ∧ prL (I 110) c c 6 = 0 ∧ ¬ I 111 c = 0) → ∀ L2, Q (some (.int 0)) I L2 := by
      rintro ⟨c, hc, z, y⟩ L2
      refine hn L2 (fun i hi => ?_)
      have hx : c = 0 ∨ c = 1 := by omega
      have za : alL (I 110) = 0 := Classical.byContradiction (fun n => by
        have := alL_p hb n
        rcases hx with e | e
        · subst e; exact this.1 z
        · subst e; exact this.2 z)
      have na : ¬ agP (I 110) (I 111) := fun a => by
        rcases hx with e | e
        · subst e; exact y (a.1 z)
        · subst e; exact y (a.2.1 z)
      rw [eT, if_pos za, if_neg na]
    have fin0 : (∃ c, c ≤ 1 ∧ prL (I 110) c c 6 = 0 ∧ ¬ I 111 c = 0) → Z n0 xX13_findLeast (d + 2) 0 0 30 [(0, .ref (n0 + 59)), (1, .int 0), (2, .int (nI 2))] [] K I L1 (z_q0 K Q) := fun w => by
      refine wp_X13_findLeast_30 hM ?_
      rw [h77]
      exact iq (by decide) (iq (by decide) (iq (by decide) (ip rfl ⟨Or.inl rfl, bad w L1⟩)))
    by_cases z0 : prL (I 110) 0 0 6 = 0 ∧ ¬ I 111 0 = 0
    · rw [if_pos z0] at eb
      subst eb
      refine wp_X13_findLeast_30 hM ?_
      rw [h77]
      exact ip (by decide) (ip rfl (fin0 ⟨0, by omega, z0⟩))
    · rw [if_neg z0] at eb
      subst eb
      refine st 1 L1 (by omega) (fun b eb => ?_)
      by_cases z1 : prL (I 110) 1 1 6 = 0 ∧ ¬ I 111 1 = 0
      · rw [if_pos z1] at eb
        subst eb
        exact fin0 ⟨1, by omega, z1⟩
      · rw [if_neg z1] at eb
        subst eb
        have a0 : prL (I 110) 0 0 6 = 0 → I 111 0 = 0 := fun y => Classical.byContradiction (fun n => z0 ⟨y, n⟩)
        have a1 : prL (I 110) 1 1 6 = 0 → I 111 1 = 0 := fun y => Classical.byContradiction (fun n => z1 ⟨y, n⟩)
        refine wp_X13_findLeast_30 hM ?_
        rw [h77]
        refine iq (by decide) (iq (by decide) (iq (by decide) (iq (by decide) (c13_product (k := 0) (l := 0) hM (by omega) (by omega) ⟨_, rfl, c13_product (k := 0) (l := 1) hM (by omega) (by omega) ⟨_, rfl, c13_product (k := 1) (l := 1) hM (by omega) (by omega) ⟨_, rfl, ?_⟩⟩⟩))))
        by_cases z : alL (I 110) = 0
        · refine ip z ?_
          -- the end of the loop
          have out : ∀ b : Int32, b = (if agP (I 110) (I 111) then 1 else 0) → ∀ {Q2 : Prop}, (Q2 → Q2) → True := fun _ _ _ _ => trivial
          have en : ∀ (c : Nat) (L2 : z_L), (prL (I 110) 0 0 6 = 0 → c = 1) → (¬ prL (I 110) 0 0 6 = 0 → c = 0) → lo1 I L2 c → ∀ b : Int32, b = (if agP (I 110) (I 111) then 1 else 0) → z_b b ∧ Q (some (.int b)) I L2 := by
            intro c L2 c1 c0 lo b hb'
            by_cases a : agP (I 110) (I 111)
            · rw [if_pos a] at hb'
              subst hb'
              refine ⟨Or.inr rfl, hs L2 (fun i hi => ?_)⟩
              rw [eT, if_pos z, if_pos a]
              by_cases y : prL (I 110) 0 0 6 = 0
              · rw [if_pos y]; have := c1 y; subst this; exact lo1_t (by omega) a1 lo i hi
              · rw [if_neg y]; have := c0 y; subst this; exact lo1_t (by omega) a0 lo i hi
            · rw [if_neg a] at hb'
              subst hb'
              exact ⟨Or.inl rfl, hn L2 (fun i hi => by rw [eT, if_pos z, if_neg a])⟩
          have lone : ∀ {b : Int32} (L2 : z_L), b = (if agP (I 110) (I 111) then 1 else 0) → (if 0 < prL (I 110) 0 0 6 then RM0 n0 xX13_leastOfOne (d + 1) [.ref (n0 + 59), .int 0] K I L2 (fun vv I6 L7 => vv = none ∧ z_b b ∧ Q (some (.int b)) I6 L7) else RM0 n0 xX13_leastOfOne (d + 1) [.ref (n0 + 59), .int 1] K I L2 (fun vv I6 L7 => vv = none ∧ z_b b ∧ Q (some (.int b)) I6 L7)) := by
            intro b L2 hb'
            by_cases y : prL (I 110) 0 0 6 = 0
            · exact iq (fun w => (pos 0 (by omega)).mp w y) (c13_leastOfOne (c := 1) (d := d) hM (by omega) (fun L3 l3 => ⟨rfl, en 1 L3 (fun _ => rfl) (fun n => absurd y n) l3 b hb'⟩))
            · exact ip ((pos 0 (by omega)).mpr y) (c13_leastOfOne (c := 0) (d := d) hM (by omega) (fun L3 l3 => ⟨rfl, en 0 L3 (fun n => absurd n y) (fun _ => rfl) l3 b hb'⟩))
          by_cases y : prL (I 110) 0 0 6 = 0
          · -- nothing in the first
            have ag : agP (I 110) (I 111) := ⟨a0, a1, fun j hj => by
              have f0 := prL_0 hb (by omega) y j hj
              rw [show 6 * 0 + j = j by omega] at f0
              have : I 110 j = 0 := q_eq.mpr (by rw [f0]; rfl)
              rw [this, a0 y]; simp⟩
            exact wp_X13_findLeast_146 hM (ip (by decide) (iq (fun w => (pos 0 (by omega)).mp w y) (lone L1 (by rw [if_pos ag]))))
          · by_cases y1 : prL (I 110) 1 1 6 = 0
            · have ag : agP (I 110) (I 111) := ⟨a0, a1, fun j hj => by
                have f0 := prL_0 hb (k := 1) (by omega) y1 j hj
                have : I 110 (6 + j) = 0 := q_eq.mpr (by rw [show 6 + j = 6 * 1 + j by omega, f0]; rfl)
                rw [this, a1 y1]; simp⟩
              exact wp_X13_findLeast_146 hM (ip (by decide) (ip ((pos 0 (by omega)).mpr y) (iq (fun w => (pos 1 (by omega)).mp w y1) (lone L1 (by rw [if_pos ag])))))
            · have lp : ∀ w j (b : Int32), j + w = 6 → (b = 1 → ∀ q, q < j → I 110 q * I 111 1 = I 110 (6 + q) * I 111 0) → (b ≠ 1 → b = 0 ∧ ¬ agP (I 110) (I 111)) → Z n0 xX13_findLeast (d + 2) 0 0 146 [(0, .ref (n0 + 59)), (1, .int b), (2, .long (prL (I 110) 0 0 6)), (6, .long (prL (I 110) 1 1 6)), (10, .int (nI j))] [] K I L1 (z_q0 K Q) := by
                intro w
                induction w with
                | zero =>
                  intro j b hj v1 v2
                  have : j = 6 := by omega
                  subst this
                  refine wp_X13_findLeast_146 hM (iq (by decide) (lone L1 ?_))
                  by_cases eb : b = 1
                  · rw [if_pos (show agP (I 110) (I 111) from ⟨a0, a1, v1 eb⟩)]; exact eb
                  · rw [if_neg (v2 eb).2]; exact (v2 eb).1
                | succ w ih =>
                  intro j b hj v1 v2
                  have x1 : (6 : Int32) + nI j = nI (6 + j) := q_nadd (a := 6)
                  refine wp_X13_findLeast_146 hM (ip (nI_lt (b := 6) (by omega) (by omega)) (ip ((pos 0 (by omega)).mpr y) (ip ((pos 1 (by omega)).mpr y1) ?_)))
                  rw [x1, q_cl (n := j) (by omega), q_cl (n := 6 + j) (by omega), ← nI_succ]
                  refine ⟨fun _ => q_inn (by omega) (by omega), fun _ => q_inn (by omega) (by omega), ih (j + 1) _ (by omega) (fun eb q hq => ?_) (fun eb => ?_)⟩
                  · by_cases b0 : b = 0
                    · rw [if_pos b0] at eb; exact absurd eb (by decide)
                    · rw [if_neg b0] at eb
                      have b1 : b = 1 := Classical.byContradiction (fun n => b0 (v2 n).1)
                      by_cases eq : q = j
                      · subst eq
                        refine (ag_eq hb (by omega)).mp (Classical.byContradiction (fun n => ?_))
                        rw [if_neg n] at eb
                        exact absurd eb (by decide)
                      · exact v1 b1 q (by omega)
                  · by_cases b0 : b = 0
                    · rw [if_pos b0]
                      exact ⟨rfl, (v2 (by rw [b0]; decide)).2⟩
                    · rw [if_neg b0] at eb ⊢
                      by_cases g : (I 111 0).toInt64 * (I 110 (6 + j)).toInt64 = (I 111 1).toInt64 * (I 110 j).toInt64
                      · rw [if_pos g] at eb; exact absurd rfl eb
                      · rw [if_neg g]
                        exact ⟨rfl, fun a => g ((ag_eq hb (by omega)).mpr (a.2.2 j (by omega)))⟩
              exact lp 6 0 1 (by omega) (fun _ q hq => by omega) (fun n => absurd rfl n)
        · refine iq z ?_
          have lp : ∀ w j L2, j + w = 6 → L2 59 81 = alL (I 110) → (∀ q, q < j → L2 112 q = (prL (I 110) 1 1 6 * (I 111 0).toInt64 - prL (I 110) 0 1 6 * (I 111 1).toInt64) * (I 110 q).toInt64 + (prL (I 110) 0 0 6 * (I 111 1).toInt64 - prL (I 110) 0 1 6 * (I 111 0).toInt64) * (I 110 (6 + q)).toInt64) → Z n0 xX13_findLeast (d + 2) 0 0 292 [(0, .ref (n0 + 59)), (10, .long (prL (I 110) 1 1 6 * (I 111 0).toInt64 - prL (I 110) 0 1 6 * (I 111 1).toInt64)), (12, .long (prL (I 110) 0 0 6 * (I 111 1).toInt64 - prL (I 110) 0 1 6 * (I 111 0).toInt64)), (14, .int (nI j))] [] K I L2 (z_q0 K Q) := by
            intro w
            induction w with
            | zero =>
              intro j L2 hj e2 v2
              have : j = 6 := by omega
              subst this
              exact wp_X13_findLeast_292 hM (iq (by decide) (hs L2 (fun i hi => by rw [eT, if_neg z, e2, v2 i hi])))
            | succ w ih =>
              intro j L2 hj e2 v2
              have x1 : (6 : Int32) + nI j = nI (6 + j) := q_nadd (a := 6)
              refine wp_X13_findLeast_292 hM (ip (nI_lt (b := 6) (by omega) (by omega)) ?_)
              rw [x1, q_cl (n := j) (by omega), q_cl (n := 6 + j) (by omega), ← nI_succ]
              refine ⟨q_inn (by omega) (by omega), q_inn (by omega) (by omega), q_inn (by omega) (by omega), ih (j + 1) _ (by omega) (by rw [zL_d (by omega)]; exact e2) (fun q hq => ?_)⟩
              by_cases e : q = j
              · subst e; exact zL_s
              · rw [zL_d (by omega)]; exact v2 q (by omega)
          exact lp 6 0 _ (by omega) zL_s (fun q hq => by omega)
theorem op_least (hC : CLay K) (hM : MLay K) (hc : CoD I nc) (hs0 : ∀ L', P I L') (hs1 : ∀ k, 1 ≤ k → k ≤ 7 → ∀ L', P (rfI I k) L') :
    OpL0 n0 xX12_least xX13_least (d + 4) (d + 3) [.int p0, .int p1] K I L P := by
  have q0 : ∀ x : Int32, (x < 0 ↔ x.toInt < 0) := fun x => q_lt
  have q1 : ∀ x : Int32, (1 < x ↔ 1 < x.toInt) := fun x => q_lt
  have q6 : ∀ x : Int32, (x < 6 ↔ x.toInt < 6) := fun x => q_lt
  have in5 : ∀ {I1 : z_I} {L1 : z_L} {Q : z_q}, Q (some (.int (bI (0 ≤ p0.toInt ∧ p0.toInt ≤ 5)))) I1 L1 → RM0 n0 xX13_in (d + 2) [.long p0.toInt64, .long 0, .long 5] K I1 L1 Q := fun {I1 L1 Q} hq => by
    refine c13_in hM ?_
    rw [bI_c (q := 0 ≤ p0.toInt ∧ p0.toInt ≤ 5) (by rw [q_i2l]; show (0 ≤ _ ∧ _ ≤ 5) ↔ _; omega)]
    exact hq
  by_cases g0 : 0 ≤ p0.toInt ∧ p0.toInt ≤ 5
  · obtain ⟨i, rfl, _, ei⟩ := q_of g0.1
    have hi : i < 6 := by omega
    refine wp_X12_least hC (iq (fun z => by have := (q0 _).mp z; omega) (ip ((q6 _).mpr (by omega)) ?_))
    by_cases g1 : 0 ≤ p1.toInt ∧ p1.toInt ≤ 1
    · refine iq (fun z => by have := (q0 _).mp z; omega) (iq (fun z => by have := (q1 _).mp z; omega) (c1_solve (d := d) hC hc hi (fun L1 e => ⟨_, rfl, ip rfl (op_rfLA 3 hC (by omega) (by omega) rfl (wp_X13_least hM (in5 ⟨_, rfl, ?_⟩)))⟩) (fun tp bt L1 e l3 l4 => ⟨_, rfl, iq (by decide) ?_⟩)))
      · rw [bI_t g0]
        refine iq (by decide) (c13_in_1 hM ⟨_, rfl, ?_⟩)
        rw [bI_t g1]
        have hc3 : CoD (zI I 1 3 (I 1 3 + 1)) nc := by
          unfold CoD
          rw [zI_r (by omega), zI_r (by omega), zI_r (by omega), zI_r (by omega), zI_r (by omega), zI_r (by omega)]
          exact hc
        have e3 : (zI I 1 3 (I 1 3 + 1)) 110 = I 110 := zI_r (by omega)
        have e4 : (zI I 1 3 (I 1 3 + 1)) 111 = I 111 := zI_r (by omega)
        refine iq (by decide) (c13_findLeast (d := d) hM hc3 (fun L2 e2 => ⟨_, rfl, ip rfl (op_rrLA 3 hM (by omega) rfl (hs1 3 (by omega) (by omega) _))⟩) (fun L2 e2 => ?_))
        have := e2 i hi
        rw [e3, e4, e] at this
        cases this
      · refine ⟨_, rfl, wp_X13_least hM (in5 ⟨_, rfl, ?_⟩)⟩
        rw [bI_t g0]
        refine iq (by decide) (c13_in_1 hM ⟨_, rfl, ?_⟩)
        rw [bI_t g1]
        refine iq (by decide) (c13_findLeast (d := d) hM hc (fun L2 e2 => ?_) (fun L2 e2 => ⟨_, rfl, iq (by decide) ⟨q_inn (by omega) (by omega), ?_⟩⟩))
        · have := e2 i hi
          rw [e] at this
          cases this
        · have e3 := e2 i hi
          rw [e] at e3
          have e4 := Option.some.inj e3
          have t1 : tp = L2 112 i := congrArg Prod.fst e4
          have t2 : bt = L2 59 81 := congrArg Prod.snd e4
          have b := lsT_b hc.2.2.2.2.2 hi e
          rw [q_cl (by omega), ← t1, ← t2]
          refine c13_divisor hM b.1 b.2 ⟨_, rfl, fun _ => lsG_p b.2, fun _ => lsG_p b.2, ?_, hs0 _⟩
          rw [← t1, ← t2, l3, l4]
    · have rf : OpRL n0 xX13_least (d + 3) [.int (nI i), .int p1] K (zI I 1 2 (I 1 2 + 1)) L P (1000000000 - (-2)).toInt64 := by
        refine wp_X13_least hM (in5 ⟨_, rfl, ?_⟩)
        rw [bI_t g0]
        refine iq (by decide) (c13_in_1 hM ⟨_, rfl, ?_⟩)
        rw [bI_f g1]
        exact ip rfl (op_rrLA 2 hM (by omega) rfl (hs1 2 (by omega) (by omega) _))
      by_cases g : p1.toInt < 0
      · exact ip ((q0 _).mpr g) (op_rfLA 2 hC (by omega) (by omega) rfl rf)
      · exact iq (fun z => g ((q0 _).mp z)) (ip ((q1 _).mpr (by omega)) (op_rfLA 2 hC (by omega) (by omega) rfl rf))
  · have rf : OpRL n0 xX13_least (d + 3) [.int p0, .int p1] K (zI I 1 1 (I 1 1 + 1)) L P (1000000000 - (-1)).toInt64 := by
      refine wp_X13_least hM (in5 ⟨_, rfl, ?_⟩)
      rw [bI_f g0]
      exact ip rfl (op_rrLA 1 hM (by omega) rfl (hs1 1 (by omega) (by omega) _))
    by_cases g : p0.toInt < 0
    · exact wp_X12_least hC (ip ((q0 _).mpr g) (op_rfLA 1 hC (by omega) (by omega) rfl rf))
    · exact wp_X12_least hC (iq (fun z => g ((q0 _).mp z)) (iq (fun z => by have := (q6 _).mp z; omega) (op_rfLA 1 hC (by omega) (by omega) rfl rf)))
end LSR
