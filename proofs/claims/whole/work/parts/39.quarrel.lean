section QUA
variable {n0 d : Nat} {K : z_K} {I : z_I} {L : z_L} {Q : z_q} {np nr : Nat} {pid pts rid rp rk : Nat → Nat} {p k : Nat} {dy : Int32} {P : z_I → z_L → Prop}
theorem cntR_le {rf : Nat → Int32} {f : Int32} : ∀ n, cntR rp rk rf p k f n ≤ n := by
  intro n
  induction n with
  | zero => exact Nat.le_refl _
  | succ n ih =>
    show cntR rp rk rf p k f n + (if rp n = p ∧ rk n = k ∧ rf n = f then 1 else 0) ≤ n + 1
    split <;> omega
theorem c5_atOnce_l {b : Nat} (hR : RlK K I nr np pid rid rp rk) (hb : b < nr) : ∀ n, n ≤ nr → ∀ c, Q (some (.int (nI (c + cntR rp rk (I 81) p k (I 81 b) n)))) I L → Z n0 xX5_rulesAtOnce (d + 1) 0 0 24 [(3, .ref (n0 + rid b)), (4, .int (nI c)), (5, zr n0 (omr rid (lastR rp rk p k n)))] [] K I L (z_q0 K Q) := by
  obtain ⟨_, _, _, _, s5, _, s7, s8, _⟩ := hR.2.2.2.1 b hb
  intro n
  induction n with
  | zero => intro _ c h; exact wp_X5_rulesAtOnce_24 (a3 := some (rid b)) (a5 := none) (osn h)
  | succ n ih =>
    intro hn c h
    obtain ⟨r1, r2, r3, r4, r5, r6, r7, r8, r9⟩ := hR.2.2.2.1 n (by omega)
    have hc : cntR rp rk (I 81) p k (I 81 b) (n + 1) = cntR rp rk (I 81) p k (I 81 b) n + if rp n = p ∧ rk n = k ∧ I 81 n = I 81 b then 1 else 0 := rfl
    rw [hc] at h
    by_cases g : rp n = p ∧ rk n = k
    · have hl : lastR rp rk p k (n + 1) = some n := if_pos g
      rw [hl]
      refine wp_X5_rulesAtOnce_24 (a3 := some (rid b)) (a5 := some (rid n)) (oss ⟨r7, r8, rid b, rfl, s7, s8, fun o ho => ?_⟩)
      rw [g.1, g.2] at r9
      rw [← ho, r9, r5, s5]
      by_cases e : I 81 n = I 81 b
      · rw [if_pos e, ← nI_succ]
        rw [if_pos ⟨g.1, g.2, e⟩] at h
        exact ih (by omega) (c + 1) (by rw [show c + 1 + cntR rp rk (I 81) p k (I 81 b) n = c + (cntR rp rk (I 81) p k (I 81 b) n + 1) from by omega]; exact h)
      · rw [if_neg e]
        rw [if_neg (fun z => e z.2.2)] at h
        exact ih (by omega) c h
    · have hl : lastR rp rk p k (n + 1) = lastR rp rk p k n := if_neg g
      rw [hl]
      rw [if_neg (fun z => g ⟨z.1, z.2.1⟩)] at h
      exact ih (by omega) c h
def quaN (rp rk : Nat → Nat) (rf : Nat → Int32) (p k nr : Nat) : Option Nat → Nat
  | none => 0
  | some b => cntR rp rk rf p k (rf b) nr
theorem c5_atOnce (hP : PcK K np pid) (hR : RlK K I nr np pid rid rp rk) (hp : p < np) (hk : k < 10) (h : Q (some (.int (nI (quaN rp rk (I 81) p k nr (selR rp rk (I 81) p k dy nr))))) I L) : RM0 n0 xX5_rulesAtOnce (d + 1) [.ref (n0 + pid p), .int (nI k), .int dy] K I L Q := by
  have hlt := hP.lt hp
  refine wp_X5_rulesAtOnce ⟨by omega, hP.cls hp, c5_ruleOn hP hR hp hk ⟨_, rfl, ?_⟩⟩
  cases e : selR rp rk (I 81) p k dy nr with
  | none =>
    rw [e] at h
    exact osn h
  | some b =>
    rw [e] at h
    refine oss ⟨_, (hP.r hp).1, 10, by omega, (hP.s hp).1, q_inn hk (by omega), fun o ho => ?_⟩
    rw [q_cl (by omega), hR.2.2.2.2 p k hp hk] at ho
    rw [← ho]
    exact c5_atOnce_l (p := p) (k := k) hR (selR_s e).1 nr (Nat.le_refl _) 0 (by rw [Nat.zero_add]; exact h)
theorem c13_quarrel_l {b : Nat} (hM : MLay K) (hR : RlK K I nr np pid rid rp rk) (hnp : np ≤ 16) (hp : p < np) (hk : k < 10) (hb : b < nr) (h : Q (some (.int (nI (cntR rp rk (I 81) p k (I 81 b) nr)))) I L) : ∀ w j, j + w = nr → Z n0 xX13_quarrel (d + 1) 0 0 36 [(0, .ref (n0 + 59)), (1, .int (nI p)), (2, .int (nI k)), (5, .int (nI b)), (6, .int (nI (cntR rp rk (I 81) p k (I 81 b) j))), (7, .int (nI j))] [] K I L (z_q0 K Q) := by
  have h120 := hR.1
  intro w
  induction w with
  | zero =>
    intro j hj
    refine wp_X13_quarrel_36 hM ?_
    rw [hR.2.2.1]
    have : j = nr := by omega
    subst this
    exact iq (fun z => by have := q_lt.mp z; omega) h
  | succ w ih =>
    intro j hj
    obtain ⟨r1, r2, r3, r4, r5, r6, r7, r8, r9⟩ := hR.2.2.2.1 j (by omega)
    refine wp_X13_quarrel_36 hM ?_
    rw [hR.2.2.1]
    have nx := ih (j + 1) (by omega)
    refine ip (nI_lt (by omega) (by omega)) (iq (nI_pos (by omega)) ⟨q_inn (by omega) (by omega), fun _ _ => q_inn (by omega) (by omega), ?_⟩)
    rw [q_cl (by omega), q_cl (by omega), ← nI_succ]
    have hin : nI (cntR rp rk (I 81) p k (I 81 b) j) + (if ((I 79 j) : Int32) = nI p then if ((I 80 j) : Int32) = nI k then if ((I 81 j) : Int32) = (I 81 b) then 1 else 0 else 0 else 0) = nI (cntR rp rk (I 81) p k (I 81 b) (j + 1)) := by
      have hc : cntR rp rk (I 81) p k (I 81 b) (j + 1) = cntR rp rk (I 81) p k (I 81 b) j + if rp j = p ∧ rk j = k ∧ I 81 j = I 81 b then 1 else 0 := rfl
      rw [r3, r4, hc]
      by_cases a : rp j = p
      · rw [if_pos (by rw [a])]
        by_cases e : rk j = k
        · rw [if_pos (by rw [e])]
          by_cases c : I 81 j = I 81 b
          · rw [if_pos c, if_pos ⟨a, e, c⟩, nI_succ]
          · rw [if_neg c, if_neg (fun z => c z.2.2), Int32.add_zero, Nat.add_zero]
        · rw [if_neg (fun z => e ((q_ni (by omega) (by omega)).mp z)), if_neg (fun z => e z.2.1), Int32.add_zero, Nat.add_zero]
      · rw [if_neg (fun z => a ((q_ni (by omega) (by omega)).mp z)), if_neg (fun z => a z.1), Int32.add_zero, Nat.add_zero]
    rw [hin]
    exact nx
theorem c13_wrongPoint_t {i j : Nat} (hM : MLay K) (hn : I 59 9 = nI np) (hb : np ≤ 16) (hp : ∀ i, i < np → I 67 i = nI (pts i) ∧ pts i ≤ 10) (hi : i < np) (hj : j < pts i) (h : Q (some (.int (bnd dy 0 1000))) I L) : RM0 n0 xX13_wrongPoint (d + 3) [.ref (n0 + 59), .int (nI i), .int (nI j), .int dy] K I L Q :=
  wp_X13_wrongPoint hM (c13_isPoint_t hM hn hb hp hi hj ⟨_, rfl, iq (by decide) (c13_bounds hM ⟨_, rfl, h⟩)⟩)
theorem c13_wrongPoint_f {a b : Int32} (hM : MLay K) (hn : I 59 9 = nI np) (hb : np ≤ 16) (hp : ∀ i, i < np → I 67 i = nI (pts i) ∧ pts i ≤ 10) (hi : ¬ isPt np pts a b) (h : Q (some (.int (-1))) I L) : RM0 n0 xX13_wrongPoint (d + 3) [.ref (n0 + 59), .int a, .int b, .int dy] K I L Q :=
  wp_X13_wrongPoint hM (c13_isPoint_f hM hn hb hp hi ⟨_, rfl, ip rfl h⟩)
theorem op_quarrel {p0 p1 p2 : Int32} (hC : CLay K) (hM : MLay K) (hP : PcK K np pid) (hN : PcN I np pid pts) (hR : RlK K I nr np pid rid rp rk) (hr : ∀ k, 1 ≤ k → k ≤ 7 → P (rfI I k) L) (hs : P I L) : Op0 n0 xX12_quarrel xX13_quarrel (d + 3) (d + 4) [.int p0, .int p1, .int p2] K I L P := by
  have hnp := hP.n
  by_cases g1 : isPt np pts p0 p1
  · obtain ⟨i, j, rfl, rfl, hi, hj⟩ := isPt_of hnp g1
    have hj10 : j < 10 := by have := (hN.c i hi).2; omega
    have hlt := hP.lt hi
    refine wp_X12_quarrel hC (c12_pieceWith_t hC hP hN.1 hN.c hi hj ⟨_, rfl, oss (c12_outside hC ⟨_, rfl, ?_⟩)⟩)
    rcases bnd_cases p2 0 1000 with ⟨e, g⟩ | ⟨e, g0, g⟩ | ⟨e, g0, g⟩
    · rw [e]
      refine iq (by decide) (op_rf 4 hC (by omega) (by omega) rfl (wp_X13_quarrel hM (c13_wrongPoint_t hM (hN.n' re_rf) hnp (hN.m' re_rf) hi hj ⟨_, rfl, ?_⟩)))
      rw [e]
      exact ip (by decide) (op_rr 4 hM (by omega) rfl (hr 4 (by omega) (by omega)))
    · rw [e]
      refine iq (by decide) (op_rf 6 hC (by omega) (by omega) rfl (wp_X13_quarrel hM (c13_wrongPoint_t hM (hN.n' re_rf) hnp (hN.m' re_rf) hi hj ⟨_, rfl, ?_⟩)))
      rw [e]
      exact ip (by decide) (op_rr 6 hM (by omega) rfl (hr 6 (by omega) (by omega)))
    · rw [e]
      refine ip rfl ⟨by omega, hP.cls hi, c5_atOnce hP hR hi hj10 ⟨_, rfl, _, rfl, wp_X13_quarrel hM (c13_wrongPoint_t hM hN.2.1 hnp hN.m hi hj ⟨_, rfl, ?_⟩)⟩⟩
      rw [e]
      refine iq (by decide) (c13_ruleOn hM hR hnp hi hj10 ⟨_, rfl, ?_⟩)
      have h120 := hR.1
      cases es : selR rp rk (I 81) i j p2 nr with
      | none =>
        refine wp_X13_quarrel_36 hM ?_
        by_cases h0 : (0 : Int32) < I 59 22
        · exact ip h0 (ip (by show (-1 : Int32) < 0; decide) ⟨rfl, hs⟩)
        · exact iq h0 ⟨rfl, hs⟩
      | some b => exact c13_quarrel_l hM hR hnp hi hj10 (selR_s es).1 ⟨rfl, hs⟩ nr 0 (by omega)
  · exact wp_X12_quarrel hC (c12_pieceWith_f hC hP hN.1 hN.c g1 ⟨_, rfl, osn (op_rf 1 hC (by omega) (by omega) rfl (wp_X13_quarrel hM (c13_wrongPoint_f hM (hN.n' re_rf) hnp (hN.m' re_rf) g1 ⟨_, rfl, ip (by decide) (op_rr 1 hM (by omega) rfl (hr 1 (by omega) (by omega)))⟩)))⟩)
end QUA
