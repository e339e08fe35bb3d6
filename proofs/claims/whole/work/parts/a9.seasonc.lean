/-! a season, the component's side -/
def cS (pn : Nat → Nat) (m s : Nat) : Nat := pn m / 10 ^ s % 10
/-- orders and markers on both sides -/
def SeD (I : z_I) (M : Nat) (w pn o : Nat → Nat) : Prop := M ≤ 6 ∧ I 52 3 = nI M ∧ I 59 124 = nI M ∧ (∀ m, m < M → I 55 m = nI (w m) ∧ I 149 m = nI (w m) ∧ 1 ≤ w m ∧ w m ≤ 9999 ∧ I 148 m = nI (pn m) ∧ pn m ≤ 99999 ∧ ∀ s, s < 5 → I 54 (5 * m + s) = nI (cS pn m s)) ∧ ∀ s, s < 5 → I 53 s = nI (o s) ∧ I 147 s = nI (o s) ∧ o s ≤ 99
def snQ (a j : Nat) : Prop := (56 ≤ a ∧ a ≤ 58) ∨ (a = 52 ∧ j = 7)
def LkI (I : z_I) (pn o : Nat → Nat) (k p : Nat) : Prop := ∀ s, s < 5 → (I 56 s).toInt = (o s : Int) - (tlS (fun m => cS pn m s) 0 k p : Int)
def BsC (I : z_I) (M : Nat) (b : Nat × Nat) : Prop := b.1 < 1000000000 → ∀ m, m < M → I 58 m = nI (dgS M b.2 m)
section SNC
variable {n0 d M : Nat} {K : z_K} {I I' : z_I} {L : z_L} {Q : z_q} {w pn o : Nat → Nat} {k j p s : Nat}
theorem cS_b {m : Nat} : cS pn m s ≤ 9 := by unfold cS; omega
theorem SeD.fr (h : SeD I M w pn o) (hI : Fz snQ I I') : SeD I' M w pn o := by
  obtain ⟨h1, h2, h3, h4, h5⟩ := h
  refine ⟨h1, by rw [hI 52 3 (by unfold snQ; omega)]; exact h2, by rw [hI 59 124 (by unfold snQ; omega)]; exact h3, fun m hm => ?_, fun s hs => ?_⟩
  · obtain ⟨a1, a2, a3, a4, a5, a6, a7⟩ := h4 m hm
    exact ⟨by rw [hI 55 m (by unfold snQ; omega)]; exact a1, by rw [hI 149 m (by unfold snQ; omega)]; exact a2, a3, a4, by rw [hI 148 m (by unfold snQ; omega)]; exact a5, a6, fun s hs => by rw [hI 54 _ (by unfold snQ; omega)]; exact a7 s hs⟩
  · rw [hI 53 s (by unfold snQ; omega), hI 147 s (by unfold snQ; omega)]; exact h5 s hs
theorem tlc_b {j N : Nat} (hj : j ≤ 6) : tlS (fun m => cS pn m s) k j N ≤ 486 := by
  have := tl_b (f := fun m => cS pn m s) (k := k) (B := 9) j N (fun m _ _ => cS_b)
  have : 9 * 9 * j ≤ 9 * 9 * 6 := Nat.mul_le_mul (Nat.le_refl _) hj
  omega
theorem tlw_b (h : SeD I M w pn o) {j N : Nat} (hj : k + j ≤ M) : tlS w k j N ≤ 539946 := by
  have := tl_b (f := w) (k := k) (B := 9999) j N (fun m _ hm => (h.2.2.2.1 m (by omega)).2.2.2.1)
  have hM := h.1
  have : 9 * 9999 * j ≤ 9 * 9999 * 6 := Nat.mul_le_mul (Nat.le_refl _) (by omega)
  omega
theorem mde_b {f : Nat → Nat} (hf : ∀ m, f m ≤ 9) : ∀ j, mdeS f k j ≤ 81 * j := by
  intro j
  induction j with
  | zero => exact Nat.le_refl _
  | succ j ih => have := hf (k + j); show mdeS f k j + f (k + j) * 9 ≤ _; omega
theorem chp_b {f : Nat → Nat} {lack : Nat} : ∀ j, chpS w f lack k j ≤ 1000000000 := by
  intro j
  induction j with
  | zero => exact Nat.le_refl _
  | succ j ih => unfold chpS; split <;> (try split) <;> omega
theorem c9_leastFor {lack : Nat} (hC : CLay K) (hS : SeD I M w pn o) (hk : k + j = M) (hs : s < 5) (h56 : I 56 s = nI lack) (hl : 0 < lack ∧ lack ≤ 99) (h : Q (some (.int (nI (lfS w (fun m => cS pn m s) lack k j)))) I L) : RM0 n0 xX9_leastFor (d + 1) [.ref (n0 + 52), .int (nI s), .int (nI k)] K I L Q := by
  have hM := hS.1
  have lp : ∀ v i, i + v = j → Z n0 xX9_leastFor (d + 1) 0 0 9 [(0, .ref (n0 + 52)), (1, .int (nI s)), (3, .int (nI (chpS w (fun m => cS pn m s) lack k i))), (4, .int (nI (mdeS (fun m => cS pn m s) k i))), (5, .int (nI (k + i)))] [] K I L (z_q0 K Q) := by
    intro v
    induction v with
    | zero =>
      intro i hi
      have : i = j := by omega
      subst this
      have mb := mde_b (f := fun m => cS pn m s) (k := k) (fun m => cS_b) i
      refine wp_X9_leastFor_9 hC ?_
      rw [hS.2.1, q_cl (n := s) (by omega), h56, hk]
      refine iq (fun z => by have := q_lt.mp z; omega) ⟨q_inn (by omega) (by omega), ?_⟩
      have e : (if nI (mdeS (fun m => cS pn m s) k i) < nI lack then (1000000000 : Int32) else nI (chpS w (fun m => cS pn m s) lack k i)) = nI (lfS w (fun m => cS pn m s) lack k i) := by
        unfold lfS
        exact n_if (c := 1000000000) (by omega) (by omega)
      rw [e]
      exact h
    | succ v ih =>
      intro i hi
      have hm : k + i < M := by omega
      obtain ⟨a1, _, a3, a4, _, _, a7⟩ := hS.2.2.2.1 (k + i) hm
      have x1 : nI (k + i) * 5 + nI s = nI (5 * (k + i) + s) := by rw [show nI (k + i) * 5 = nI ((k + i) * 5) from q_nmul (b := 5), q_nadd, Nat.mul_comm]
      have cb := cS_b (pn := pn) (m := k + i) (s := s)
      have mb := mde_b (f := fun m => cS pn m s) (k := k) (fun m => cS_b) i
      have hb := chp_b (w := w) (f := fun m => cS pn m s) (lack := lack) (k := k) i
      refine wp_X9_leastFor_9 hC ?_
      rw [hS.2.1, x1, q_cl (n := 5 * (k + i) + s) (by omega), q_cl (n := s) (by omega), q_cl (n := k + i) (by omega), a7 s hs, a1, h56, ← nI_succ]
      refine ip (nI_lt hm (by omega)) ⟨q_inn (by omega) (by omega), ?_⟩
      by_cases g : cS pn (k + i) s = 0
      · refine ip (by rw [g]; rfl) ?_
        have e1 : chpS w (fun m => cS pn m s) lack k (i + 1) = chpS w (fun m => cS pn m s) lack k i := by
          show (if cS pn (k + i) s = 0 then _ else _) = _
          rw [if_pos g]
        have e2 : mdeS (fun m => cS pn m s) k (i + 1) = mdeS (fun m => cS pn m s) k i := by
          show mdeS _ k i + cS pn (k + i) s * 9 = _
          rw [g]; omega
        have st := ih (i + 1) (by omega)
        rw [e1, e2] at st
        exact st
      · have hne : ¬ nI (cS pn (k + i) s) = 0 := fun z => g ((q_ni (b := 0) (by omega) (by omega)).mp z)
        refine iq hne ⟨q_inn (by omega) (by omega), q_inn (by omega) (by omega), hne, ?_⟩
        have hmul : lack * w (k + i) ≤ 99 * 9999 := Nat.mul_le_mul hl.2 a4
        have x2 : nI lack * nI (w (k + i)) + nI (cS pn (k + i) s) - 1 = nI (lack * w (k + i) + cS pn (k + i) s - 1) := by
          rw [q_nmul, q_nadd]
          have := nI_prev (e := lack * w (k + i) + cS pn (k + i) s - 1)
          rw [show lack * w (k + i) + cS pn (k + i) s - 1 + 1 = lack * w (k + i) + cS pn (k + i) s by omega] at this
          exact this
        have x3 : nI (cS pn (k + i) s) * 9 = nI (cS pn (k + i) s * 9) := q_nmul (b := 9)
        have hdl : (lack * w (k + i) + cS pn (k + i) s - 1) / cS pn (k + i) s ≤ lack * w (k + i) + cS pn (k + i) s - 1 := Nat.div_le_self _ _
        rw [x2, q_ndiv (by omega) (by omega), x3, q_nadd, n_if (by omega) (by omega)]
        have e1 : chpS w (fun m => cS pn m s) lack k (i + 1) = if (lack * w (k + i) + cS pn (k + i) s - 1) / cS pn (k + i) s < chpS w (fun m => cS pn m s) lack k i then (lack * w (k + i) + cS pn (k + i) s - 1) / cS pn (k + i) s else chpS w (fun m => cS pn m s) lack k i := by
          show (if cS pn (k + i) s = 0 then _ else _) = _
          rw [if_neg g]
        rw [← e1]
        exact ih (i + 1) (by omega)
  exact wp_X9_leastFor hC (lp j 0 (by omega))
theorem lf_b {f : Nat → Nat} {lack : Nat} : lfS w f lack k j ≤ 1000000000 := by unfold lfS; split; exact Nat.le_refl _; exact chp_b j
theorem lm_b {c : Nat → Nat → Nat} : ∀ s, lmS w c o k j p s ≤ 1000000000 := by
  intro s
  induction s with
  | zero => exact Nat.zero_le _
  | succ s ih =>
    unfold lmS
    split
    · split
      · exact lf_b
      · exact ih
    · exact ih
theorem c9_leastMore (hC : CLay K) (hS : SeD I M w pn o) (hk : k + j = M) (hL : LkI I pn o k p) (h : Q (some (.int (nI (lmS w (cS pn) o k j p 5)))) I L) : RM0 n0 xX9_leastMore (d + 2) [.ref (n0 + 52), .int (nI k)] K I L Q := by
  have hM := hS.1
  have lp : ∀ v s, s + v = 5 → Z n0 xX9_leastMore (d + 2) 0 0 4 [(0, .ref (n0 + 52)), (1, .int (nI k)), (2, .int (nI (lmS w (cS pn) o k j p s))), (3, .int (nI s))] [] K I L (z_q0 K Q) := by
    intro v
    induction v with
    | zero =>
      intro s hs
      have : s = 5 := by omega
      subst this
      exact wp_X9_leastMore_4 hC (iq (by decide) h)
    | succ v ih =>
      intro s hs
      have l := hL s (by omega)
      have ob := (hS.2.2.2.2 s (by omega)).2.2
      have e0 : (0 : Int32).toInt = 0 := rfl
      refine wp_X9_leastMore_4 hC (ip (nI_lt (b := 5) (by omega) (by omega)) ⟨q_inn (by omega) (by omega), ?_⟩)
      rw [q_cl (by omega), ← nI_succ]
      by_cases g : tlS (fun m => cS pn m s) 0 k p < o s
      · have e56 : I 56 s = nI (o s - tlS (fun m => cS pn m s) 0 k p) := q_eq.mpr (by rw [q_nI (by omega), l]; omega)
        refine ip (q_lt.mpr (by rw [e0, l]; omega)) (c9_leastFor (d := d) hC hS hk (by omega) e56 ⟨by omega, by omega⟩ ⟨_, rfl, ?_⟩)
        have b1 := lm_b (w := w) (o := o) (k := k) (j := j) (p := p) (c := cS pn) s
        have b2 := lf_b (w := w) (f := fun m => cS pn m s) (lack := o s - tlS (fun m => cS pn m s) 0 k p) (k := k) (j := j)
        rw [n_if (by omega) (by omega)]
        have e : lmS w (cS pn) o k j p (s + 1) = if lmS w (cS pn) o k j p s < lfS w (fun m => cS pn m s) (o s - tlS (fun m => cS pn m s) 0 k p) k j then lfS w (fun m => cS pn m s) (o s - tlS (fun m => cS pn m s) 0 k p) k j else lmS w (cS pn) o k j p s := by
          show (if tlS (fun m => cS pn m s) 0 k p < o s then _ else _) = _
          rw [if_pos g]
        rw [← e]
        exact ih (s + 1) (by omega)
      · refine iq (fun z => by have := q_lt.mp z; rw [e0, l] at this; omega) ?_
        have e : lmS w (cS pn) o k j p (s + 1) = lmS w (cS pn) o k j p s := by
          show (if tlS (fun m => cS pn m s) 0 k p < o s then _ else _) = _
          rw [if_neg g]
        have st := ih (s + 1) (by omega)
        rw [e] at st
        exact st
  exact wp_X9_leastMore hC (lp 5 0 (by omega))
theorem c9_changeLacks {t : Int32} (hC : CLay K) (hS : SeD I M w pn o) (hk : k < M) (h : ∀ I', Fz (fun a _ => a = 56) I I' → (∀ s, s < 5 → I' 56 s = I 56 s + t * nI (cS pn k s)) → Q none I' L) : RM0 n0 xX9_changeLacks d [.ref (n0 + 52), .int (nI k), .int t] K I L Q := by
  have hM := hS.1
  have lp : ∀ v s I1, s + v = 5 → Fz (fun a _ => a = 56) I I1 → (∀ q, q < s → I1 56 q = I 56 q + t * nI (cS pn k q)) → (∀ q, s ≤ q → I1 56 q = I 56 q) → Z n0 xX9_changeLacks d 0 0 2 [(0, .ref (n0 + 52)), (1, .int (nI k)), (2, .int t), (3, .int (nI s))] [] K I1 L (z_q0 K Q) := by
    intro v
    induction v with
    | zero =>
      intro s I1 hs f1 v1 v2
      have : s = 5 := by omega
      subst this
      exact wp_X9_changeLacks_2 hC (iq (by decide) (h I1 f1 v1))
    | succ v ih =>
      intro s I1 hs f1 v1 v2
      have x1 : nI k * 5 + nI s = nI (5 * k + s) := by rw [show nI k * 5 = nI (k * 5) from q_nmul (b := 5), q_nadd, Nat.mul_comm]
      refine wp_X9_changeLacks_2 hC (ip (nI_lt (b := 5) (by omega) (by omega)) ?_)
      rw [x1, q_cl (n := s) (by omega), q_cl (n := 5 * k + s) (by omega), f1 54 _ (by omega), (hS.2.2.2.1 k hk).2.2.2.2.2.2 s (by omega), v2 s (Nat.le_refl _), ← nI_succ]
      refine ⟨q_inn (by omega) (by omega), q_inn (by omega) (by omega), ih (s + 1) _ (by omega) (Fz.z (S := fun a _ => a = 56) f1 rfl) (fun q hq => ?_) (fun q hq => ?_)⟩
      · by_cases e : q = s
        · subst e; exact zI_s
        · rw [zI_d (by omega)]; exact v1 q (by omega)
      · rw [zI_d (by omega)]; exact v2 q (by omega)
  exact wp_X9_changeLacks hC (lp 5 0 I (by omega) Fz.rfl' (fun q hq => by omega) (fun q _ => rfl))
end SNC
