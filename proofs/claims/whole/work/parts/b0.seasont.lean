section SNT
variable {n0 d M : Nat} {K : z_K} {I I' : z_I} {L : z_L} {w pn o : Nat → Nat}
theorem lm_leaf {c : Nat → Nat → Nat} {k p : Nat} : ∀ s, (∀ q, q < s → o q ≤ tlS (fun m => c m q) 0 k p) ∨ 1000000000 ≤ lmS w c o k 0 p s := by
  intro s
  induction s with
  | zero => exact Or.inl (fun q hq => by omega)
  | succ s ih =>
    by_cases g : tlS (fun m => c m s) 0 k p < o s
    · refine Or.inr ?_
      have e : lfS w (fun m => c m s) (o s - tlS (fun m => c m s) 0 k p) k 0 = 1000000000 := by
        unfold lfS
        exact if_pos (by show 0 < _; omega)
      unfold lmS
      rw [if_pos g, e]
      split <;> omega
    · have e : lmS w c o k 0 p (s + 1) = lmS w c o k 0 p s := by
        show (if tlS (fun m => c m s) 0 k p < o s then _ else _) = _
        rw [if_neg g]
      rw [e]
      rcases ih with h | h
      · refine Or.inl (fun q hq => ?_)
        by_cases z : q = s
        · subst z; omega
        · exact h q (by omega)
      · exact Or.inr h
theorem tl_10 {f : Nat → Nat} {k p n : Nat} (hn : n < 10) : tlS f 0 (k + 1) (p * 10 + n) = tlS f 0 k p + n * f k := by
  show tlS f 0 k ((p * 10 + n) / 10) + (p * 10 + n) % 10 * f (0 + k) = _
  rw [show (p * 10 + n) / 10 = p by omega, show (p * 10 + n) % 10 = n by omega, Nat.zero_add]
theorem dg_10 {k p n m : Nat} (hn : n < 10) : dgS (k + 1) (p * 10 + n) m = if m = k then n else dgS k p m := by
  show (if m = k then (p * 10 + n) % 10 else dgS k ((p * 10 + n) / 10) m) = _
  rw [show (p * 10 + n) / 10 = p by omega, show (p * 10 + n) % 10 = n by omega]
theorem c9_tryMarker (hC : CLay K) : ∀ j k p (b : Nat × Nat) (I : z_I) (Q : z_q), k + j = M → SeD I M w pn o → LkI I pn o k p → (∀ m, m < k → I 57 m = nI (dgS k p m)) → I 52 7 = nI b.1 → b.1 ≤ 1000000000 → BsC I M b →
    (∀ I', Fz snQ I I' → LkI I' pn o k p → (∀ m, m < k → I' 57 m = nI (dgS k p m)) → I' 52 7 = nI (rngS w (cS pn) o M (p * 10 ^ j) (10 ^ j) b).1 → BsC I' M (rngS w (cS pn) o M (p * 10 ^ j) (10 ^ j) b) → Q none I' L) →
    RM0 n0 xX9_tryMarker (d + j + 3) [.ref (n0 + 52), .int (nI k), .int (nI (tlS w 0 k p))] K I L Q := by
  intro j
  induction j with
  | zero =>
    intro k p b I Q hk hS hL ht hb hb9 hB h
    have hM := hS.1
    have eM : k = M := by omega
    have cb := tlw_b (k := 0) (j := k) (N := p) hS (by omega)
    have lb := lm_b (w := w) (o := o) (k := k) (j := 0) (p := p) (c := cS pn) 5
    refine wp_X9_tryMarker (d := d + 2) hC (c9_leastMore (d := d) (j := 0) hC hS hk hL ⟨_, rfl, ?_⟩)
    rw [q_nadd, hb, hS.2.1]
    have er : rngS w (cS pn) o M (p * 10 ^ 0) (10 ^ 0) b = snT w (cS pn) o M p b := by
      rw [Nat.pow_zero, Nat.mul_one]; rfl
    by_cases g : tlS w 0 k p + lmS w (cS pn) o k 0 p 5 < b.1
    · refine ip (nI_lt g (by omega)) (iq (fun z => by have := (q_nlt (by omega) (by omega)).mp z; omega) ?_)
      have met : metS (cS pn) o M p := by
        rcases lm_leaf (w := w) (o := o) (c := cS pn) (k := k) (p := p) 5 with z | z
        · rw [← eM]; exact z
        · omega
      have es : snT w (cS pn) o M p b = (tlS w 0 M p, p) := by
        unfold snT
        rw [if_pos ⟨met, by rw [← eM]; omega⟩]
      rw [er, es] at h
      have hn : ∀ a, a ≠ 58 → (zC (zI I 52 7 (nI (tlS w 0 k p))) 57 58 0 0 6) a = (zI I 52 7 (nI (tlS w 0 k p))) a := fun a ha => zC_n ha
      refine h _ (fun a q hq => ?_) (fun s hs => ?_) (fun m hm => ?_) ?_ (fun _ m hm => ?_)
      · rw [hn a (fun z => hq (Or.inl (by omega))), zI_d (fun z => hq (Or.inr z))]
      · rw [hn 56 (by omega), zI_r (by omega)]; exact hL s hs
      · rw [hn 57 (by omega), zI_r (by omega)]; exact ht m hm
      · rw [hn 52 (by omega), zI_s, eM]
      · rw [zC_s (by omega), Nat.zero_add, zI_r (by omega), ht m (by omega), eM]
    · refine iq (fun z => g ((q_nlt (by omega) (by omega)).mp z)) ?_
      have := rng_pr (w := w) (c := cS pn) (o := o) (k := k) (j := 0) (p := p) (b := b) (by omega)
      rw [hk] at this
      rw [this] at h
      exact h I Fz.rfl' hL ht hb hB
  | succ j ih =>
    intro k p b I Q hk hS hL ht hb hb9 hB h
    have hM := hS.1
    have hkM : k < M := by omega
    have cb := tlw_b (k := 0) (j := k) (N := p) hS (by omega)
    have lb := lm_b (w := w) (o := o) (k := k) (j := j + 1) (p := p) (c := cS pn) 5
    obtain ⟨a1, _, a3, a4, _, _, a7⟩ := hS.2.2.2.1 k hkM
    refine wp_X9_tryMarker (d := d + j + 3) hC (c9_leastMore (d := d + j + 1) (j := j + 1) hC hS hk hL ⟨_, rfl, ?_⟩)
    rw [q_nadd, hb, hS.2.1]
    by_cases g : tlS w 0 k p + lmS w (cS pn) o k (j + 1) p 5 < b.1
    · refine ip (nI_lt g (by omega)) (ip (nI_lt hkM (by omega)) ?_)
      have hlo : p * 10 ^ (j + 1) = p * 10 * 10 ^ j := by rw [Nat.pow_succ, Nat.mul_assoc, Nat.mul_comm 10]
      have lp : ∀ (v n : Nat) (I1 : z_I), n + v = 10 → Fz snQ I I1 → (∀ s, s < 5 → (I1 56 s).toInt = (o s : Int) - (tlS (fun m => cS pn m s) 0 k p : Int) - (n : Int) * (cS pn k s : Int)) → (∀ m, m < k → I1 57 m = nI (dgS k p m)) → I1 52 7 = nI (rngS w (cS pn) o M (p * 10 ^ (j + 1)) (n * 10 ^ j) b).1 → BsC I1 M (rngS w (cS pn) o M (p * 10 ^ (j + 1)) (n * 10 ^ j) b) → Z n0 xX9_tryMarker (d + j + 3 + 1) 0 0 46 [(0, .ref (n0 + 52)), (1, .int (nI k)), (2, .int (nI (tlS w 0 k p))), (3, .int (nI n))] [] K I1 L (z_q0 K Q) := by
        intro v
        induction v with
        | zero =>
          intro n I1 hn f1 l1 t1 b1 B1
          have : n = 10 := by omega
          subst this
          have hS1 := hS.fr f1
          refine wp_X9_tryMarker_46 hC (ip (by decide) (c9_changeLacks (w := w) (o := o) hC hS1 hkM (fun I2 f2 v2 => ⟨rfl, ?_⟩)))
          rw [show 10 ^ (j + 1) = 10 * 10 ^ j by rw [Nat.pow_succ, Nat.mul_comm]] at h
          rw [show 10 ^ (j + 1) = 10 * 10 ^ j by rw [Nat.pow_succ, Nat.mul_comm]] at b1 B1
          refine h I2 (f1.trans (f2.mono (fun a q z => Or.inl (by omega)))) (fun s hs => ?_) (fun m hm => by rw [f2 57 m (by omega)]; exact t1 m hm) (by rw [f2 52 7 (by omega)]; exact b1) (fun z m hm => by rw [f2 58 m (by omega)]; exact B1 z m hm)
          have cb2 := cS_b (pn := pn) (m := k) (s := s)
          have tb2 := tlc_b (pn := pn) (s := s) (k := 0) (j := k) (N := p) (by omega)
          have ob := (hS.2.2.2.2 s hs).2.2
          have e10 : (10 : Int32) * nI (cS pn k s) = nI (10 * cS pn k s) := q_nmul (a := 10)
          have l := l1 s hs
          rw [v2 s hs, e10, q_add (by rw [l, q_nI (by omega)]; omega) (by rw [l, q_nI (by omega)]; omega), l, q_nI (by omega)]
          omega
        | succ v ihv =>
          intro n I1 hn f1 l1 t1 b1 B1
          have hS1 := hS.fr f1
          refine wp_X9_tryMarker_46 hC (iq (fun z => by have := (q_nlt (a := 9) (by omega) (by omega)).mp z; omega) ⟨q_inn (by omega) (by omega), ?_⟩)
          have e57 : ∀ a, a ≠ 57 → (zI I1 57 k (nI n)) a = I1 a := fun a ha => zI_r ha
          have f1' : Fz snQ I (zI I1 57 k (nI n)) := f1.z (Or.inl (by omega))
          have es : nI (tlS w 0 k p) + nI n * nI (w k) = nI (tlS w 0 (k + 1) (p * 10 + n)) := by rw [q_nmul, q_nadd, tl_10 (by omega)]
          rw [q_cl (by omega), (hS1.2.2.2.1 k hkM).1, ← nI_succ, es]
          have ble := rng_le (w := w) (c := cS pn) (o := o) (M := M) (b := b) (lo := p * 10 ^ (j + 1)) (n * 10 ^ j)
          refine ih (k + 1) (p * 10 + n) (rngS w (cS pn) o M (p * 10 ^ (j + 1)) (n * 10 ^ j) b) (zI I1 57 k (nI n)) _ (by omega) (hS.fr f1') (fun s hs => ?_) (fun m hm => ?_) (by rw [e57 52 (by omega)]; exact b1) (by omega) (fun z m hm => by rw [e57 58 (by omega)]; exact B1 z m hm) (fun I2 f2 l2 t2 b2 B2 => ⟨rfl, ?_⟩)
          · rw [e57 56 (by omega), l1 s hs, tl_10 (by omega), Int.natCast_add, Int.natCast_mul]
            omega
          · rw [dg_10 (by omega)]
            by_cases e : m = k
            · subst e; rw [if_pos rfl, zI_s]
            · rw [if_neg e, zI_d (by omega)]; exact t1 m (by omega)
          · have hr : rngS w (cS pn) o M ((p * 10 + n) * 10 ^ j) (10 ^ j) (rngS w (cS pn) o M (p * 10 ^ (j + 1)) (n * 10 ^ j) b) = rngS w (cS pn) o M (p * 10 ^ (j + 1)) ((n + 1) * 10 ^ j) b := by
              rw [Nat.succ_mul, rng_add]
              congr 1
              rw [hlo, Nat.add_mul]
            rw [hr] at b2 B2
            have hS2 := (hS.fr f1').fr f2
            refine c9_changeLacks (w := w) (o := o) hC hS2 hkM (fun I3 f3 v3 => ⟨rfl, ?_⟩)
            rw [← nI_succ]
            refine ihv (n + 1) I3 (by omega) ((f1'.trans f2).trans (f3.mono (fun a q z => Or.inl (by omega)))) (fun s hs => ?_) (fun m hm => ?_) (by rw [f3 52 7 (by omega)]; exact b2) (fun z m hm => by rw [f3 58 m (by omega)]; exact B2 z m hm)
            · have l := l2 s hs
              rw [tl_10 (by omega), Int.natCast_add, Int.natCast_mul] at l
              have cb2 := cS_b (pn := pn) (m := k) (s := s)
              have tb2 := tlc_b (pn := pn) (s := s) (k := 0) (j := k) (N := p) (by omega)
              have ob := (hS.2.2.2.2 s hs).2.2
              have e1 : ((-1 : Int32) * nI (cS pn k s)).toInt = -(cS pn k s : Int) := by
                have em : (-1 : Int32).toInt = -1 := rfl
                rw [q_mul (by rw [em, q_nI (by omega)]; omega) (by rw [em, q_nI (by omega)]; omega), em, q_nI (by omega)]; omega
              have hnc : ((n : Int) * (cS pn k s : Int)) ≤ 9 * 9 ∧ 0 ≤ ((n : Int) * (cS pn k s : Int)) := by
                rw [← Int.natCast_mul]
                have : n * cS pn k s ≤ 9 * 9 := Nat.mul_le_mul (by omega) cb2
                omega
              rw [v3 s hs, q_add (by rw [l, e1]; omega) (by rw [l, e1]; omega), l, e1, show ((n + 1 : Nat) : Int) * (cS pn k s : Int) = (n : Int) * (cS pn k s : Int) + (cS pn k s : Int) by rw [Int.natCast_add, Int.add_mul]; simp]
              omega
            · rw [f3 57 m (by omega), t2 m (by omega), dg_10 (by omega), if_neg (by omega)]
      refine lp 10 0 I (by omega) Fz.rfl' (fun s hs => ?_) ht ?_ ?_
      · rw [hL s hs]; simp
      · rw [Nat.zero_mul]; exact hb
      · rw [Nat.zero_mul]; exact hB
    · refine iq (fun z => g ((q_nlt (by omega) (by omega)).mp z)) ?_
      have := rng_pr (w := w) (c := cS pn) (o := o) (k := k) (j := j + 1) (p := p) (b := b) (by omega)
      rw [hk] at this
      rw [this] at h
      exact h I Fz.rfl' hL ht hb hB
/-- the season's best -/
def snR (w pn o : Nat → Nat) (M : Nat) : Nat × Nat := rngS w (cS pn) o M 0 (10 ^ M) (1000000000, 0)
theorem c9_solve {Q : z_q} (hC : CLay K) (hS : SeD I M w pn o) (h : ∀ I', Fz snQ I I' → I' 52 7 = nI (snR w pn o M).1 → BsC I' M (snR w pn o M) → Q (some (.int (if (snR w pn o M).1 < 1000000000 then 1 else 0))) I' L) : RM0 n0 xX9_solve (d + M + 4) [.ref (n0 + 52)] K I L Q := by
  have hn : ∀ a, a ≠ 56 → (zC (zI I 52 7 1000000000) 53 56 0 0 5) a = (zI I 52 7 1000000000) a := fun a ha => zC_n ha
  have f0 : Fz snQ I (zC (zI I 52 7 1000000000) 53 56 0 0 5) := fun a q hq => by
    rw [hn a (fun z => hq (Or.inl (by omega))), zI_d (fun z => hq (Or.inr z))]
  refine wp_X9_solve hC ?_
  refine c9_tryMarker (M := M) (w := w) (pn := pn) (o := o) (d := d) hC M 0 0 (1000000000, 0) (zC (zI I 52 7 1000000000) 53 56 0 0 5) _ (by omega) (hS.fr f0) (fun s hs => ?_) (fun m hm => by omega) (by rw [hn 52 (by omega), zI_s]; rfl) (by decide) (fun z => by simp at z) (fun I1 f1 _ _ b1 B1 => ⟨rfl, ?_⟩)
  · rw [zC_s hs, Nat.zero_add, zI_r (by omega), (hS.2.2.2.2 s hs).1, q_nI (by have := (hS.2.2.2.2 s hs).2.2; omega)]
    show _ = (o s : Int) - ((0 : Nat) : Int)
    simp
  · have e0 : rngS w (cS pn) o M (0 * 10 ^ M) (10 ^ M) (1000000000, 0) = snR w pn o M := by rw [Nat.zero_mul]; rfl
    rw [e0] at b1 B1
    have hle : (snR w pn o M).1 ≤ 1000000000 := rng_le (10 ^ M)
    have ei : (if nI (snR w pn o M).1 < (1000000000 : Int32) then (1 : Int32) else 0) = if (snR w pn o M).1 < 1000000000 then 1 else 0 := by
      by_cases g : (snR w pn o M).1 < 1000000000
      · rw [if_pos g, if_pos (by exact nI_lt (b := 1000000000) g (by omega))]
      · rw [if_neg g, if_neg (by intro z; exact g ((q_nlt (b := 1000000000) (by omega) (by omega)).mp z))]
    rw [b1, ei]
    exact h I1 (f0.trans f1) b1 B1
end SNT
