/-! two numbers within bounds; moves of points, measures of bodies -/
section OP3
variable {n0 d dr dd : Nat} {K : z_K} {I : z_I} {L : z_L} {P : z_I → z_L → Prop} {Q : z_q} {np nb : Nat} {pid bid pts : Nat → Nat}
def bb (v w lo hi : Int32) : Int32 := if (if w < v then w else v) < lo then (-4) else if hi < (if v < w then w else v) then (-6) else 0
theorem c12_bothOutside {v w lo hi : Int32} (hC : CLay K) (h : Q (some (.int (bb v w lo hi))) I L) : RM0 n0 xX12_bothOutside (d + 1) [.int v, .int w, .int lo, .int hi] K I L Q := by
  refine wp_X12_bothOutside hC ?_
  unfold bb at h
  by_cases g : (if w < v then w else v) < lo
  · rw [if_pos g] at h; exact ip g h
  · rw [if_neg g] at h; exact iq g h
theorem bb_cases (v w lo hi : Int32) : (bb v w lo hi = (-4) ∧ (v < lo ∨ w < lo)) ∨ (bb v w lo hi = (-6) ∧ ¬ v < lo ∧ ¬ w < lo ∧ (hi < v ∨ hi < w)) ∨ (bb v w lo hi = 0 ∧ ¬ v < lo ∧ ¬ w < lo ∧ ¬ hi < v ∧ ¬ hi < w) := by
  unfold bb
  by_cases a : (if w < v then w else v) < lo
  · rw [if_pos a]
    refine Or.inl ⟨rfl, ?_⟩
    split at a
    · exact Or.inr a
    · exact Or.inl a
  · rw [if_neg a]
    have a' : ¬ v < lo ∧ ¬ w < lo := by
      split at a <;> rename_i g <;> simp only [q_lt] at * <;> omega
    by_cases c : hi < (if v < w then w else v)
    · rw [if_pos c]
      refine Or.inr (Or.inl ⟨rfl, a'.1, a'.2, ?_⟩)
      split at c
      · exact Or.inr c
      · exact Or.inl c
    · rw [if_neg c]
      have c' : ¬ hi < v ∧ ¬ hi < w := by
        split at c <;> rename_i g <;> simp only [q_lt] at * <;> omega
      exact Or.inr (Or.inr ⟨rfl, a'.1, a'.2, c'.1, c'.2⟩)
/-- the reference's four tests -/
theorem ch4 {v w lo hi : Int32} {A B S : Prop} : (v < lo ∨ w < lo → A → (if v < lo then A else (if w < lo then A else S))) := by
  intro h a
  by_cases h1 : v < lo
  · exact ip h1 a
  · exact iq h1 (ip (h.resolve_left h1) a)
theorem ch6 {v w lo hi : Int32} {A B S : Prop} (h1 : ¬ v < lo) (h2 : ¬ w < lo) (h : hi < v ∨ hi < w) (b : B) : (if v < lo then A else (if w < lo then A else (if hi < v then B else (if hi < w then B else S)))) := by
  refine iq h1 (iq h2 ?_)
  by_cases h3 : hi < v
  · exact ip h3 b
  · exact iq h3 (ip (h.resolve_left h3) b)
theorem ch0 {v w lo hi : Int32} {A B S : Prop} (h1 : ¬ v < lo) (h2 : ¬ w < lo) (h3 : ¬ hi < v) (h4 : ¬ hi < w) (s : S) : (if v < lo then A else (if w < lo then A else (if hi < v then B else (if hi < w then B else S)))) := iq h1 (iq h2 (iq h3 (iq h4 s)))
theorem op_grade {p k x y : Int32} (hC : CLay K) (hM : MLay K) (hP : PcK K np pid) (hN : PcN I np pid pts) (hr : ∀ k, 1 ≤ k → k ≤ 7 → P (rfI I k) L)
    (hs : ∀ i j, i < np → j < pts i → ¬ x < (-99) → ¬ y < (-99) → ¬ 99 < x → ¬ 99 < y → P (zI (zI (zI (zI I (pid i + 2) j x) (pid i + 3) j y) 70 (10 * i + j) x) 71 (10 * i + j) y) L) : Op0 n0 xX12_grade xX13_grade (d + 2) (d + 3) [.int p, .int k, .int x, .int y] K I L P := by
  have hnp := hP.n
  by_cases g : isPt np pts p k
  · obtain ⟨i, j, rfl, rfl, hi, hj⟩ := isPt_of hnp g
    have hlt := hP.lt hi
    have hge := hP.ge hi
    have hpj := (hN.m i hi).2
    refine wp_X12_grade hC (c12_pieceWith_t hC hP hN.1 hN.c hi hj ⟨_, rfl, oss (c12_bothOutside hC ⟨_, rfl, ?_⟩)⟩)
    rcases bb_cases x y (-99) 99 with ⟨e, g⟩ | ⟨e, g1, g2, g⟩ | ⟨e, g1, g2, g3, g4⟩ <;> rw [e]
    · exact iq (by decide) (op_rf 4 hC (by omega) (by omega) rfl (wp_X13_grade hM (c13_isPoint_t hM (hN.n' re_rf) hnp (hN.m' re_rf) hi hj ⟨_, rfl, iq (by decide) (ch4 (hi := 0) (B := True) g (op_rr 4 hM (by omega) rfl (hr 4 (by omega) (by omega))))⟩)))
    · exact iq (by decide) (op_rf 6 hC (by omega) (by omega) rfl (wp_X13_grade hM (c13_isPoint_t hM (hN.n' re_rf) hnp (hN.m' re_rf) hi hj ⟨_, rfl, iq (by decide) (ch6 g1 g2 g (op_rr 6 hM (by omega) rfl (hr 6 (by omega) (by omega))))⟩)))
    · refine ip rfl ⟨by omega, hP.cls hi, _, (hP.r hi).2.1, 10, by omega, (hP.s hi).2.1, q_inn (by omega) (by omega), _, (hP.r hi).2.2.1, 10, by omega, (hP.s hi).2.2.1, q_inn (by omega) (by omega), ?_⟩
      rw [q_cl (by omega)]
      have hre : RE (zI (zI I (pid i + 2) j x) (pid i + 3) j y) I := (RE.rf.z (Or.inr (by omega))).z (Or.inr (by omega))
      refine ⟨_, rfl, wp_X13_grade hM (c13_isPoint_t hM (hN.n' hre) hnp (hN.m' hre) hi hj ⟨_, rfl, iq (by decide) (ch0 g1 g2 g3 g4 ?_)⟩)⟩
      rw [q_tj (by omega) (by omega), q_cl (by omega)]
      exact ⟨q_inn (by omega) (by omega), rfl, hs i j hi hj g1 g2 g3 g4⟩
  · exact wp_X12_grade hC (c12_pieceWith_f hC hP hN.1 hN.c g ⟨_, rfl, osn (op_rf 1 hC (by omega) (by omega) rfl (wp_X13_grade hM (c13_isPoint_f hM (hN.n' re_rf) hnp (hN.m' re_rf) g ⟨_, rfl, ip rfl (op_rr 1 hM (by omega) rfl (hr 1 (by omega) (by omega)))⟩)))⟩)
theorem op_curve {p k x y : Int32} (hC : CLay K) (hM : MLay K) (hP : PcK K np pid) (hN : PcN I np pid pts) (hr : ∀ k, 1 ≤ k → k ≤ 7 → P (rfI I k) L)
    (hs : ∀ i j, i < np → j < pts i → ¬ x < (-999) → ¬ y < (-999) → ¬ 999 < x → ¬ 999 < y → P (zI (zI (zI (zI (zI (zI I (pid i + 4) j 1) (pid i + 5) j x) (pid i + 6) j y) 72 (10 * i + j) 1) 73 (10 * i + j) x) 74 (10 * i + j) y) L) : Op0 n0 xX12_curve xX13_curve (d + 2) (d + 3) [.int p, .int k, .int x, .int y] K I L P := by
  have hnp := hP.n
  by_cases g : isPt np pts p k
  · obtain ⟨i, j, rfl, rfl, hi, hj⟩ := isPt_of hnp g
    have hlt := hP.lt hi
    have hge := hP.ge hi
    have hpj := (hN.m i hi).2
    refine wp_X12_curve hC (c12_pieceWith_t hC hP hN.1 hN.c hi hj ⟨_, rfl, oss (c12_bothOutside hC ⟨_, rfl, ?_⟩)⟩)
    rcases bb_cases x y (-999) 999 with ⟨e, g⟩ | ⟨e, g1, g2, g⟩ | ⟨e, g1, g2, g3, g4⟩ <;> rw [e]
    · exact iq (by decide) (op_rf 4 hC (by omega) (by omega) rfl (wp_X13_curve hM (c13_isPoint_t hM (hN.n' re_rf) hnp (hN.m' re_rf) hi hj ⟨_, rfl, iq (by decide) (ch4 (hi := 0) (B := True) g (op_rr 4 hM (by omega) rfl (hr 4 (by omega) (by omega))))⟩)))
    · exact iq (by decide) (op_rf 6 hC (by omega) (by omega) rfl (wp_X13_curve hM (c13_isPoint_t hM (hN.n' re_rf) hnp (hN.m' re_rf) hi hj ⟨_, rfl, iq (by decide) (ch6 g1 g2 g (op_rr 6 hM (by omega) rfl (hr 6 (by omega) (by omega))))⟩)))
    · refine ip rfl ⟨by omega, hP.cls hi, _, (hP.r hi).2.2.2.1, 10, by omega, (hP.s hi).2.2.2.1, q_inn (by omega) (by omega), _, (hP.r hi).2.2.2.2.1, 10, by omega, (hP.s hi).2.2.2.2.1, q_inn (by omega) (by omega), _, (hP.r hi).2.2.2.2.2, 10, by omega, (hP.s hi).2.2.2.2.2, q_inn (by omega) (by omega), ?_⟩
      rw [q_cl (by omega)]
      have hre : RE (zI (zI (zI I (pid i + 4) j 1) (pid i + 5) j x) (pid i + 6) j y) I := ((RE.rf.z (Or.inr (by omega))).z (Or.inr (by omega))).z (Or.inr (by omega))
      refine ⟨_, rfl, wp_X13_curve hM (c13_isPoint_t hM (hN.n' hre) hnp (hN.m' hre) hi hj ⟨_, rfl, iq (by decide) (ch0 g1 g2 g3 g4 ?_)⟩)⟩
      rw [q_tj (by omega) (by omega), q_cl (by omega)]
      exact ⟨q_inn (by omega) (by omega), rfl, hs i j hi hj g1 g2 g3 g4⟩
  · exact wp_X12_curve hC (c12_pieceWith_f hC hP hN.1 hN.c g ⟨_, rfl, osn (op_rf 1 hC (by omega) (by omega) rfl (wp_X13_curve hM (c13_isPoint_f hM (hN.n' re_rf) hnp (hN.m' re_rf) g ⟨_, rfl, ip rfl (op_rr 1 hM (by omega) rfl (hr 1 (by omega) (by omega)))⟩)))⟩)
/-- bodies as both count them -/
def BdN (I : z_I) (nb : Nat) : Prop := I 0 4 = nI nb ∧ I 59 6 = nI nb
theorem BdN.m' {I' : z_I} (h : BdN I nb) (hr : RE I' I) : I' 59 6 = nI nb := by rw [hr 59 (by omega) (by omega)]; exact h.2
theorem q_8j {i j : Nat} : ((8 : Int32) * nI i + nI j) = nI (8 * i + j) := by
  rw [show (8 : Int32) = nI 8 from rfl, q_nmul, q_nadd]
theorem op_measure {b m v : Int32} (hC : CLay K) (hM : MLay K) (hB : BdK K nb bid) (hN : BdN I nb) (he : ∀ i j, i < nb → j < 8 → I (bid i + 1) j = I 65 (8 * i + j)) (hr : ∀ k, 1 ≤ k → k ≤ 7 → P (rfI I k) L)
    (hs : ∀ i j, i < nb → j < 8 → -1 ≤ v.toInt → v.toInt ≤ 9999 → P (zI (zI I (bid i + 1) j v) 65 (8 * i + j) v) L) : Op0 n0 xX12_measure xX13_measure (d + 2) (d + 2) [.int b, .int m, .int v] K I L P := by
  have hnb := hB.n
  by_cases g : 0 ≤ b.toInt ∧ b.toInt < nb
  · obtain ⟨i, rfl, hi1, ei⟩ := q_of g.1
    have hi : i < nb := by omega
    have hlt := hB.lt hi
    have hge := hB.ge hi
    have hb : bI (0 ≤ (nI i).toInt ∧ (nI i).toInt < nb) = 1 := bI_t g
    refine wp_X12_measure hC (c12_bodyOf_t hC hB hN.1 hi ⟨_, rfl, oss (c12_isMeasure hC ⟨_, rfl, ?_⟩)⟩)
    by_cases gm : 0 ≤ m.toInt ∧ m.toInt < 8
    · rw [bI_t gm]
      obtain ⟨j, rfl, hj1, ej⟩ := q_of gm.1
      have hj : j < 8 := by omega
      have hbm : bI (0 ≤ (nI j).toInt ∧ (nI j).toInt < 8) = 1 := bI_t gm
      refine iq (by decide) (c12_outside hC ⟨_, rfl, ?_⟩)
      rcases bnd_cases v (-1) 9999 with ⟨e, g⟩ | ⟨e, g0, g⟩ | ⟨e, g0, g⟩
      · rw [e]
        refine iq (by decide) (op_rfA 4 hC (by omega) (by omega) rfl (wp_X13_measure hM (c13_isBody hM (hN.m' re_rf) (by omega) ⟨_, rfl, ?_⟩)))
        rw [hb]
        refine iq (by decide) (c13_isMeasure hM ⟨_, rfl, ?_⟩)
        rw [hbm]
        refine iq (by decide) (c13_bounds hM ⟨_, rfl, ?_⟩)
        rw [e]
        refine ip (by decide) (c13_bounds hM ⟨_, rfl, ?_⟩)
        rw [e]
        exact op_rrA 4 hM (by omega) rfl (hr 4 (by omega) (by omega))
      · rw [e]
        refine iq (by decide) (op_rfA 6 hC (by omega) (by omega) rfl (wp_X13_measure hM (c13_isBody hM (hN.m' re_rf) (by omega) ⟨_, rfl, ?_⟩)))
        rw [hb]
        refine iq (by decide) (c13_isMeasure hM ⟨_, rfl, ?_⟩)
        rw [hbm]
        refine iq (by decide) (c13_bounds hM ⟨_, rfl, ?_⟩)
        rw [e]
        refine ip (by decide) (c13_bounds hM ⟨_, rfl, ?_⟩)
        rw [e]
        exact op_rrA 6 hM (by omega) rfl (hr 6 (by omega) (by omega))
      · rw [e]
        refine ip rfl ⟨by omega, hB.cls hi, _, (hB.r hi).1, 8, by omega, (hB.s hi).1, q_inn hj (by omega), ?_⟩
        rw [q_cl (by omega)]
        have hre : RE (zI I (bid i + 1) j v) I := RE.rf.z (Or.inr (by omega))
        refine ⟨_, rfl, wp_X13_measure hM (c13_isBody hM (hN.m' hre) (by omega) ⟨_, rfl, ?_⟩)⟩
        rw [hb]
        refine iq (by decide) (c13_isMeasure hM ⟨_, rfl, ?_⟩)
        rw [hbm]
        refine iq (by decide) (c13_bounds hM ⟨_, rfl, ?_⟩)
        rw [e]
        refine iq (by decide) ?_
        rw [q_8j, q_cl (by omega)]
        refine ⟨q_inn (by omega) (by omega), ?_, hs i j hi hj g0 g⟩
        rw [hre 65 (by omega) (by omega), he i j hi hj]
    · rw [bI_f gm]
      refine ip rfl (op_rfA 1 hC (by omega) (by omega) rfl (wp_X13_measure hM (c13_isBody hM (hN.m' re_rf) (by omega) ⟨_, rfl, ?_⟩)))
      rw [hb]
      refine iq (by decide) (c13_isMeasure hM ⟨_, rfl, ?_⟩)
      rw [bI_f gm]
      exact ip rfl (op_rrA 1 hM (by omega) rfl (hr 1 (by omega) (by omega)))
  · refine wp_X12_measure hC (c12_bodyOf_f hC hB hN.1 g ⟨_, rfl, osn (op_rfA 1 hC (by omega) (by omega) rfl (wp_X13_measure hM (c13_isBody hM (hN.m' re_rf) (by omega) ⟨_, rfl, ?_⟩)))⟩)
    rw [bI_f g]
    exact ip rfl (op_rrA 1 hM (by omega) rfl (hr 1 (by omega) (by omega)))
end OP3
