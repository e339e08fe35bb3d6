section UN
variable {n0 d : Nat} {K : z_K} {I I0 : z_I} {L L0 : z_L} {Q : z_q} {T ms rx ry : Nat → Int32} {n i dp : Nat} {pt : Int32} {S R m a : List Int32} {s : Bool × List Int64 × Int32 × Int32}
theorem StR.bd {w : Int32} (h : StR I0 L0 I L i S s dp) (hw : ¬ w = 0) : BdR I0 L0 (zI I 59 33 w) L i := by
  refine ⟨h.1.z (Or.inl ⟨rfl, by omega⟩), h.2.1, ?_, ?_⟩
  · rw [zI_d (by omega)]; exact h.2.2.1
  · rw [zI_s]; exact hw
theorem BdR.z {e j : Nat} {w : Int32} (h : BdR I0 L0 I L e) (hj : j = 34 ∨ j = 41) : BdR I0 L0 (zI I 59 j w) L e := by
  refine ⟨h.1.z (Or.inl ⟨rfl, by omega⟩), h.2.1, ?_, ?_⟩
  · rw [zI_d (by omega)]; exact h.2.2.1
  · rw [zI_d (by omega)]; exact h.2.2.2
theorem BdR.l {e j : Nat} {w : Int64} (h : BdR I0 L0 I L e) : BdR I0 L0 I (zL L 85 j w) e := ⟨h.1, fun a ha => by rw [zL_ne ha]; exact h.2.1 a ha, h.2.2⟩
theorem c13_push_b {v : Int64} {k e : Nat} (hM : MLay K) (h : BdR I0 L0 I L e) (h41 : I 59 41 = nI k) (hl : k < 70) (hq : ∀ I' L', BdR I0 L0 I' L' e → Q none I' L') : RM0 n0 xX13_push (d + 1) [.ref (n0 + 59), .long v] K I L Q := by
  refine wp_X13_push hM ?_
  rw [h41]
  by_cases g : I 59 34 = 0
  · refine ip g (c13_in hM ⟨_, rfl, ?_⟩)
    rw [h41]
    exact ⟨q_inn hl (by omega), hq _ _ ((h.z (Or.inl rfl)).z (Or.inr rfl)).l⟩
  · exact iq g ⟨q_inn hl (by omega), hq _ _ ((h.z (Or.inl rfl)).z (Or.inr rfl)).l⟩
theorem q_dig {a t : Nat} (ha : a < 1000) (ht : t < 10) : (10 * (nI a).toInt64 + (nI (48 + t)).toInt64) - 48 = (nI (a * 10 + t)).toInt64 := by
  have e10 : (10 : Int64).toInt = 10 := rfl
  have e48 : (48 : Int64).toInt = 48 := rfl
  have ea : ((nI a).toInt64).toInt = a := by rw [q_i2l, q_nI (by omega)]
  have et : ((nI (48 + t)).toInt64).toInt = (48 + t : Nat) := by rw [q_i2l, q_nI (by omega)]
  have m1 : (10 * (nI a).toInt64).toInt = 10 * (a : Int) := by rw [q_lmul (by rw [e10, ea]; omega) (by rw [e10, ea]; omega), e10, ea]
  have m2 : (10 * (nI a).toInt64 + (nI (48 + t)).toInt64).toInt = 10 * (a : Int) + (48 + t : Nat) := by rw [q_ladd (by rw [m1, et]; omega) (by rw [m1, et]; omega), m1, et]
  refine Int64.toInt_inj.mp ?_
  rw [q_lsub (by rw [m2, e48]; omega) (by rw [m2, e48]; omega), m2, e48, q_i2l, q_nI (by omega)]
  omega
theorem q_dig32 {a t : Nat} : nI a * 10 + nI (48 + t) - 48 = nI (a * 10 + t) := by
  rw [show nI (48 + t) = 48 + nI t from by rw [← q_nadd]; rfl, show (10 : Int32) = nI 10 from rfl, q_nmul, ← q_nadd (a := a * 10), Int32.add_comm 48 (nI t), ← Int32.add_assoc, Int32.add_sub_cancel]
theorem c13_num_l (hM : MLay K) (hT : TxR I0 T n pt ms rx ry) (hv2 : s.2.1.length < 70) : ∀ w k j a I1, k + w = 4 → a < 10 ^ k → j ≤ n → StR I0 L0 I1 L j S s dp → (∀ I' L', StR I0 L0 I' L' (numR T n w j (nI a)).1 S (evP ((numR T n w j (nI a)).2).toInt64 s) dp → Q (some (.int 0)) I' L') → Z n0 xX13_readUnit (d + 2) 0 0 254 [(0, .ref (n0 + 59)), (2, .long (nI a).toInt64), (4, .int (nI k))] [] K I1 L (z_q0 K Q) := by
  intro w
  induction w with
  | zero =>
    intro k j a I1 hk ha hj h hq
    have : k = 4 := by omega
    subst this
    exact wp_X13_readUnit_254 hM (iq (by decide) (c13_push hM h hv2 (fun I' L' z => ⟨rfl, hq I' L' z⟩)))
  | succ w ih =>
    intro k j a I1 hk ha hj h hq
    refine wp_X13_readUnit_254 hM (ip (nI_lt (b := 4) (by omega) (by omega)) (c13_here hM (hT.fz h.1) h.2.2.1 hj ⟨_, rfl, wp_X13_isDigit hM ⟨_, rfl, ?_⟩⟩))
    have hp : 10 ^ k ≤ 10 ^ 3 := Nat.pow_le_pow_right (by decide) (by omega)
    have hp2 : 10 ^ (k + 1) = 10 * 10 ^ k := by rw [Nat.pow_succ, Nat.mul_comm]
    by_cases g : ¬ nxT T n j < 48 ∧ ¬ 57 < nxT T n j
    · rw [dg_t g]
      rw [numR_d g] at hq
      refine iq (by decide) (c13_here hM (hT.fz h.1) h.2.2.1 hj ⟨_, rfl, ?_⟩)
      obtain ⟨t, ht, et⟩ := dg_n g
      have hp3 : (10 : Nat) ^ 3 = 1000 := rfl
      rw [et, q_dig (by omega) ht, h.2.2.1, ← nI_succ, ← nI_succ]
      rw [et, q_dig32] at hq
      exact ih (k + 1) (j + 1) _ _ (by omega) (by omega) (nx_lt48 g.1) (h.at rfl) hq
    · rw [dg_f g]
      have e : numR T n (w + 1) j (nI a) = (j, nI a) := if_neg g
      rw [e] at hq
      exact ip rfl (c13_push hM h hv2 (fun I' L' z => ⟨rfl, hq I' L' z⟩))
theorem ru_path {x : Int32} {A B C D E F : Prop} (h40 : ¬ x = 40) (h114 : ¬ x = 114) (hm : ¬ (¬ x < 97 ∧ x < 105)) (h : C) : if x = 40 then A else if x = 114 then B else if x < 97 then C else if 104 < x then C else D := by
  refine iq h40 (iq h114 ?_)
  by_cases g : x < 97
  · exact ip g h
  · refine iq g (ip (q_lt.mpr ?_) h)
    have h1 := mt q_lt.mpr (fun z => hm ⟨g, z⟩)
    have e1 : (105 : Int32).toInt = 105 := rfl
    have e2 : (104 : Int32).toInt = 104 := rfl
    omega
theorem c13_ru_d (hM : MLay K) (hT : TxR I0 T n pt ms rx ry) (hin : i ≤ n) (h : StR I0 L0 I L i S s dp) (hv2 : s.2.1.length < 70) (g1 : ¬ nxT T n i < 48 ∧ ¬ 57 < nxT T n i) (hq : ∀ I' L', StR I0 L0 I' L' (numR T n 4 i 0).1 S (evP ((numR T n 4 i 0).2).toInt64 s) dp → Q (some (.int 0)) I' L') : RM0 n0 xX13_readUnit (d + 2) [.ref (n0 + 59)] K I L Q := by
  refine wp_X13_readUnit hM (c13_here hM (hT.fz h.1) h.2.2.1 hin ⟨_, rfl, ?_⟩)
  have h1 := mt q_lt.mpr g1.1
  have h2 := mt q_lt.mpr g1.2
  have e1 : (48 : Int32).toInt = 48 := rfl
  have e2 : (57 : Int32).toInt = 57 := rfl
  have e3 : (97 : Int32).toInt = 97 := rfl
  have ne : ∀ {y : Int32}, 58 ≤ y.toInt ∨ y.toInt < 48 → ¬ nxT T n i = y := fun hy z => by rw [z] at h1 h2; omega
  refine iq (ne (Or.inr (by decide))) (iq (ne (Or.inl (by decide))) (ip (q_lt.mpr (by omega)) (iq (ne (Or.inl (by decide))) (iq (ne (Or.inl (by decide))) (wp_X13_isDigit hM ⟨_, rfl, ?_⟩)))))
  rw [dg_t g1, if_neg (by decide)]
  exact c13_num_l hM hT hv2 4 0 i 0 _ (by omega) (by decide) hin (h.bad rfl) hq
theorem c13_ru_bad (hM : MLay K) (hT : TxR I0 T n pt ms rx ry) (hin : i ≤ n) (h : StR I0 L0 I L i S s dp) (hv2 : s.2.1.length < 70) (g1 : ¬ (¬ nxT T n i < 48 ∧ ¬ 57 < nxT T n i)) (g2 : ¬ (¬ nxT T n i < 97 ∧ nxT T n i < 105)) (g3 : ¬ (nxT T n i = 120 ∨ nxT T n i = 121)) (g4 : ¬ nxT T n i = 114) (g5 : ¬ nxT T n i = 40) (hq : ∀ I' L', BdR I0 L0 I' L' i → Q (some (.int 0)) I' L') : RM0 n0 xX13_readUnit (d + 2) [.ref (n0 + 59)] K I L Q := by
  refine wp_X13_readUnit hM (c13_here hM (hT.fz h.1) h.2.2.1 hin ⟨_, rfl, ?_⟩)
  refine ru_path (E := True) (F := True) g5 g4 g2 (iq (fun z => g3 (Or.inl z)) (iq (fun z => g3 (Or.inr z)) (wp_X13_isDigit hM ⟨_, rfl, ?_⟩)))
  rw [dg_f g1, if_pos rfl]
  have hb := h.bd (w := 1) (by decide)
  refine wp_X13_readUnit_254 hM (ip (by decide) (c13_here hM (hT.fz hb.1) hb.2.2.1 hin ⟨_, rfl, wp_X13_isDigit hM ⟨_, rfl, ?_⟩⟩))
  rw [dg_f g1]
  exact ip rfl (c13_push_b hM hb (by rw [zI_d (by omega)]; exact h.2.2.2.2.2.2.1) hv2 (fun I' L' z => ⟨rfl, hq I' L' z⟩))
theorem c13_ru_m (hM : MLay K) (hT : TxR I0 T n pt ms rx ry) (hin : i ≤ n) (h : StR I0 L0 I L i S s dp) (hv2 : s.2.1.length < 70) (g2 : ¬ nxT T n i < 97 ∧ nxT T n i < 105) (hq : ∀ I' L', StR I0 L0 I' L' (i + 1) S (evC ms rx ry s (10000 + nxT T n i - 97)) dp → Q (some (.int 0)) I' L') : RM0 n0 xX13_readUnit (d + 2) [.ref (n0 + 59)] K I L Q := by
  have hT1 := hT.fz h.1
  refine wp_X13_readUnit hM (c13_here hM hT1 h.2.2.1 hin ⟨_, rfl, ?_⟩)
  have h1 := mt q_lt.mpr g2.1
  have h2 := q_lt.mp g2.2
  have e1 : (97 : Int32).toInt = 97 := rfl
  have e2 : (105 : Int32).toInt = 105 := rfl
  obtain ⟨k, em, hm, em2⟩ := q_of (show 0 ≤ (nxT T n i).toInt by omega)
  have ek : k = 97 + (k - 97) := by omega
  rw [em, ek, evC_m (by omega)] at hq
  have ne : ∀ {y : Int32}, 105 ≤ y.toInt ∨ y.toInt < 97 → ¬ nxT T n i = y := fun hy z => by rw [z] at h1 h2; omega
  refine iq (ne (Or.inr (by decide))) (iq (ne (Or.inl (by decide))) (iq g2.1 (iq (fun z => by have := q_lt.mp z; have e3 : (104 : Int32).toInt = 104 := rfl; omega) ?_)))
  have ex : nxT T n i - 97 = nI (k - 97) := by
    rw [em, ek, show nI (97 + (k - 97)) = 97 + nI (k - 97) from by rw [← q_nadd]; rfl, Int32.add_comm, Int32.add_sub_cancel]
    rw [show 97 + (k - 97) - 97 = k - 97 from by omega]
  rw [ex, q_cl (by omega), hT1.2.2.2.2.1, h.2.2.2.2.2.2.2.2.2.1]
  refine ⟨q_inn (by omega) (by omega), c13_push hM (h.nm (j := 38) (Or.inl rfl) rfl rfl _ rfl) hv2 (fun I' L' z => ⟨rfl, ?_⟩)⟩
  rw [z.2.2.1, ← nI_succ]
  exact hq _ _ (z.at rfl)
theorem c13_ru_xy (hM : MLay K) (hT : TxR I0 T n pt ms rx ry) (hin : i < n) (hb : -1 ≤ (nxT T n (i + 1)).toInt) (h : StR I0 L0 I L i S s dp) (hv2 : s.2.1.length < 70) (g3 : nxT T n i = 120 ∨ nxT T n i = 121)
    (hq1 : ((nxT T n (i + 1) - 48 < 0 ∨ 9 < nxT T n (i + 1) - 48) ∨ ¬ nxT T n (i + 1) - 48 < pt) → ∀ I' L', BdR I0 L0 I' L' (i + 1) → Q (some (.int 0)) I' L')
    (hq2 : ¬ ((nxT T n (i + 1) - 48 < 0 ∨ 9 < nxT T n (i + 1) - 48) ∨ ¬ nxT T n (i + 1) - 48 < pt) → ∀ I' L', StR I0 L0 I' L' (i + 2) S (evC ms rx ry s ((if nxT T n i = 120 then 10010 else 10020) + (nxT T n (i + 1) - 48))) dp → Q (some (.int 0)) I' L') : RM0 n0 xX13_readUnit (d + 2) [.ref (n0 + 59)] K I L Q := by
  have hT1 := hT.fz h.1
  have h10 := hT.2.2.2.1
  have e48 : (48 : Int32).toInt = 48 := rfl
  have e57 : (57 : Int32).toInt = 57 := rfl
  have e9 : (9 : Int32).toInt = 9 := rfl
  have e00 : (0 : Int32).toInt = 0 := rfl
  have e99 : (99 : Int32).toInt = 99 := rfl
  have hu := (q_rng (nxT T n (i + 1))).2
  have es : (nxT T n (i + 1) - 48).toInt = (nxT T n (i + 1)).toInt - 48 := q_sub (by omega) (by omega)
  refine wp_X13_readUnit hM (c13_here hM hT1 h.2.2.1 (by omega) ⟨_, rfl, ?_⟩)
  rw [h.2.2.1, ← nI_succ]
  have ha := h.at (j := i + 1) (v := nI (i + 1)) rfl
  have hTa := hT.fz ha.1
  have body : ∀ y : Int32, (y = 120 ∨ y = 121) → (nxT T n i = y) → RM0 n0 xX13_here (d + 1) [.ref (n0 + 59)] K (zI I 59 31 (nI (i + 1))) L (fun vv I8 L9 => ∃ r10 : Int32, vv = some (.int r10) ∧ RM0 n0 xX13_isDigit (d + 1) [.int r10] K I8 L9 (fun vv I11 L12 => ∃ r13 : Int32, vv = some (.int r13) ∧ (if r13 = 0 then (if (((if (99 : Int32) < (I11 59 32) then 0 else 1)) : Int32) = 0 then (¬ (y = 120) → vp_in 99 10) ∧ (y = 120 → vp_in 99 10) ∧ RM0 n0 xX13_push (d + 1) [.ref (n0 + 59), .long (if y = 120 then ((I11 82 99) : Int32).toInt64 else ((I11 83 99) : Int32).toInt64)] K (zI (zI I11 59 33 (if (99 : Int32) < (I11 59 32) then 0 else 1)) 59 39 ((I11 59 39) ||| ((1 : Int32) <<< (99 &&& 31 : Int32)))) L12 (fun vv I22 L23 => vv = none ∧ Q (some (.int 0)) (zI I22 59 31 ((I22 59 31) + 1)) L23) else Q (some (.int 0)) (zI I11 59 33 (if (99 : Int32) < (I11 59 32) then 0 else 1)) L12) else RM0 n0 xX13_here (d + 1) [.ref (n0 + 59)] K I11 L12 (fun vv I24 L25 => ∃ r26 : Int32, vv = some (.int r26) ∧ (if (((if ((r26 - 48) : Int32) < (I24 59 32) then 0 else 1)) : Int32) = 0 then (¬ (y = 120) → vp_in (r26 - 48) 10) ∧ (y = 120 → vp_in (r26 - 48) 10) ∧ RM0 n0 xX13_push (d + 1) [.ref (n0 + 59), .long (if y = 120 then ((I24 82 ((r26 - 48).toNatClampNeg)) : Int32).toInt64 else ((I24 83 ((r26 - 48).toNatClampNeg)) : Int32).toInt64)] K (zI (zI I24 59 33 (if ((r26 - 48) : Int32) < (I24 59 32) then 0 else 1)) 59 39 ((I24 59 39) ||| ((1 : Int32) <<< ((r26 - 48) &&& 31 : Int32)))) L25 (fun vv I34 L35 => vv = none ∧ Q (some (.int 0)) (zI I34 59 31 ((I34 59 31) + 1)) L35) else Q (some (.int 0)) (zI I24 59 33 (if ((r26 - 48) : Int32) < (I24 59 32) then 0 else 1)) L25))))) := by
    intro y hy hxy
    refine c13_here hM hTa ha.2.2.1 hin ⟨_, rfl, wp_X13_isDigit hM ⟨_, rfl, ?_⟩⟩
    rw [hTa.2.2.1]
    by_cases g : ¬ nxT T n (i + 1) < 48 ∧ ¬ 57 < nxT T n (i + 1)
    · rw [dg_t g]
      refine iq (by decide) (c13_here hM hTa ha.2.2.1 hin ⟨_, rfl, ?_⟩)
      rw [hTa.2.2.1]
      have b1 := mt q_lt.mpr g.1
      have b2 := mt q_lt.mpr g.2
      by_cases gp : nxT T n (i + 1) - 48 < pt
      · have ng : ¬ ((nxT T n (i + 1) - 48 < 0 ∨ 9 < nxT T n (i + 1) - 48) ∨ ¬ nxT T n (i + 1) - 48 < pt) := fun z => by
          rcases z with (z | z) | z
          · have := q_lt.mp z; omega
          · have := q_lt.mp z; omega
          · exact z gp
        have hq := hq2 ng
        obtain ⟨k, ek, hk, ek2⟩ := q_of (show 0 ≤ (nxT T n (i + 1) - 48).toInt by omega)
        have hk10 : k < 10 := by omega
        rw [if_pos gp, ek]
        rw [ek] at hq
        refine ip rfl ⟨fun _ => q_inn hk10 (by omega), fun _ => q_inn hk10 (by omega), ?_⟩
        rw [q_cl (by omega), hTa.2.2.2.2.2.1, hTa.2.2.2.2.2.2.1]
        have h39 := ha.2.2.2.2.2.2.2.2.2.2.1
        rw [h39]
        have st := (ha.bad (w := 0) rfl).nm (j := 39) (w := s.2.2.2 ||| ((1 : Int32) <<< (nI k &&& 31 : Int32))) (Or.inr rfl) rfl rfl _ rfl
        refine c13_push hM st hv2 (fun I' L' z => ⟨rfl, ?_⟩)
        rw [z.2.2.1, ← nI_succ]
        refine hq _ _ ?_
        rw [hxy]
        rcases hy with e | e
        · subst e
          rw [if_pos rfl, evC_x hk10]
          rw [if_pos rfl] at z
          exact z.at rfl
        · subst e
          rw [if_neg (by decide), evC_y hk10]
          rw [if_neg (by decide)] at z
          exact z.at rfl
      · rw [if_neg gp]
        exact iq (by decide) (hq1 (Or.inr gp) _ _ (ha.bd (by decide)))
    · have e99' : (if (99 : Int32) < pt then (0 : Int32) else 1) = 1 := if_neg (fun z => by have := q_lt.mp z; omega)
      rw [dg_f g, e99']
      refine ip rfl (iq (by decide) (hq1 (Or.inl ?_) _ _ (ha.bd (by decide))))
      by_cases g' : nxT T n (i + 1) < 48
      · exact Or.inl (q_lt.mpr (by have := q_lt.mp g'; omega))
      · refine Or.inr (q_lt.mpr ?_)
        have : 57 < nxT T n (i + 1) := Classical.byContradiction (fun z => g ⟨g', z⟩)
        have := q_lt.mp this
        omega
  rcases g3 with e | e
  · have b := body 120 (Or.inl rfl) e
    rw [e]
    exact iq (by decide) (iq (by decide) (iq (by decide) (ip (by decide) (ip rfl b))))
  · have b := body 121 (Or.inr rfl) e
    rw [e]
    exact iq (by decide) (iq (by decide) (iq (by decide) (ip (by decide) (iq (by decide) (ip rfl b)))))
theorem StR.opn {sg : Int32} (h : StR I0 L0 I L i S s dp) : StR I0 L0 (zI (zI (zI (zI I 59 44 (nI (dp + 1))) 86 S.length sg) 59 43 (nI (S.length + 1))) 59 31 (nI (i + 1))) L (i + 1) (sg :: S) s (dp + 1) := by
  have h1 : StR I0 L0 (zI I 59 44 (nI (dp + 1))) L i S s (dp + 1) := by
    obtain ⟨h1, h2, h3, h4, h5, h6, h7, h8, h9, h10, h11, h12, h13⟩ := h
    refine ⟨h1.z (Or.inl ⟨rfl, by omega⟩), h2, ?_, zI_s, ?_, ?_, ?_, h8, ?_, ?_, ?_, ?_, ?_⟩
    · rw [zI_d (by omega)]; exact h3
    · rw [zI_d (by omega)]; exact h5
    · rw [zI_r (by omega)]; exact h6
    · rw [zI_d (by omega)]; exact h7
    · rw [zI_d (by omega)]; exact h9
    · rw [zI_d (by omega)]; exact h10
    · rw [zI_d (by omega)]; exact h11
    · rw [zI_d (by omega)]; exact h12
    · rw [zI_d (by omega)]; exact h13
  exact h1.psh
theorem c13_opens {sg : Int32} (hM : MLay K) (h : StR I0 L0 I L i S s dp) (hl : S.length < 70) (hdp : dp ≤ 5) (hq1 : dp = 5 → ∀ I' L', BdR I0 L0 I' L' i → Q none I' L') (hq2 : dp < 5 → ∀ I' L', StR I0 L0 I' L' (i + 1) (sg :: S) s (dp + 1) → Q none I' L') : RM0 n0 xX13_opens d [.ref (n0 + 59), .int sg] K I L Q := by
  refine wp_X13_opens hM ?_
  rw [h.2.2.2.1, h.2.2.2.2.1, h.2.2.1]
  by_cases g : dp = 5
  · subst g
    exact ip rfl (hq1 rfl _ _ (h.bd (by decide)))
  · refine iq (fun z => g (by have := q_eq.mp z; rw [q_nI (by omega)] at this; have e5 : (5 : Int32).toInt = 5 := rfl; omega)) ⟨q_inn hl (by omega), ?_⟩
    rw [q_cl (by omega), ← nI_succ, ← nI_succ, ← nI_succ]
    exact hq2 (by omega) _ _ h.opn
theorem c13_ru_o (hM : MLay K) (hT : TxR I0 T n pt ms rx ry) (hin : i ≤ n) (h : StR I0 L0 I L i S s dp) (hl : S.length < 70) (hdp : dp ≤ 5) (g : nxT T n i = 40) (hq1 : dp = 5 → ∀ I' L', BdR I0 L0 I' L' i → Q (some (.int 1)) I' L') (hq2 : dp < 5 → ∀ I' L', StR I0 L0 I' L' (i + 1) (40 :: S) s (dp + 1) → Q (some (.int 1)) I' L') : RM0 n0 xX13_readUnit (d + 2) [.ref (n0 + 59)] K I L Q := by
  refine wp_X13_readUnit hM (c13_here hM (hT.fz h.1) h.2.2.1 hin ⟨_, rfl, ip g (c13_opens hM h hl hdp (fun a I' L' z => ⟨rfl, hq1 a I' L' z⟩) (fun a I' L' z => ⟨rfl, hq2 a I' L' z⟩))⟩)
theorem c13_ru_r (hM : MLay K) (hT : TxR I0 T n pt ms rx ry) (hin : i < n) (h : StR I0 L0 I L i S s dp) (hl : S.length < 70) (hdp : dp ≤ 5) (g : nxT T n i = 114) (hq1 : ¬ (nxT T n (i + 1) = 40 ∧ dp < 5) → ∀ I' L', BdR I0 L0 I' L' (i + 1) → Q (some (.int 1)) I' L') (hq2 : nxT T n (i + 1) = 40 ∧ dp < 5 → ∀ I' L', StR I0 L0 I' L' (i + 2) (114 :: S) s (dp + 1) → Q (some (.int 1)) I' L') : RM0 n0 xX13_readUnit (d + 2) [.ref (n0 + 59)] K I L Q := by
  have ha := h.at (j := i + 1) (v := nI (i + 1)) rfl
  have hTa := hT.fz ha.1
  refine wp_X13_readUnit hM (c13_here hM (hT.fz h.1) h.2.2.1 (by omega) ⟨_, rfl, iq (by rw [g]; decide) (ip g ?_)⟩)
  rw [h.2.2.1, ← nI_succ]
  refine c13_here hM hTa ha.2.2.1 hin ⟨_, rfl, ?_⟩
  by_cases g2 : nxT T n (i + 1) = 40
  · exact ip g2 (c13_opens hM ha hl hdp (fun a I' L' z => ⟨rfl, hq1 (fun w => by omega) I' L' z⟩) (fun a I' L' z => ⟨rfl, hq2 ⟨g2, a⟩ I' L' z⟩))
  · exact iq g2 (hq1 (fun w => g2 w.1) _ _ (ha.bd (by decide)))
end UN
