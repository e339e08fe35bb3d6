section SNF
variable {n0 d M : Nat} {K : z_K} {I I' : z_I} {L : z_L} {Q : z_q} {w pn o : Nat → Nat} {n : Nat}
theorem SeD.fm (h : SeD I M w pn o) (hI : Fz snM I I') : SeD I' M w pn o := by
  obtain ⟨h1, h2, h3, h4, h5⟩ := h
  refine ⟨h1, by rw [hI 52 3 (by unfold snM; omega)]; exact h2, by rw [hI 59 124 (by unfold snM; omega)]; exact h3, fun m hm => ?_, fun s hs => ?_⟩
  · obtain ⟨a1, a2, a3, a4, a5, a6, a7⟩ := h4 m hm
    exact ⟨by rw [hI 55 m (by unfold snM; omega)]; exact a1, by rw [hI 149 m (by unfold snM; omega)]; exact a2, a3, a4, by rw [hI 148 m (by unfold snM; omega)]; exact a5, a6, fun s hs => by rw [hI 54 _ (by unfold snM; omega)]; exact a7 s hs⟩
  · rw [hI 53 s (by unfold snM; omega), hI 147 s (by unfold snM; omega)]; exact h5 s hs
theorem bsS_n {b : Nat × Nat} (h : b.1 ≤ 1000000000) : bsS b < 0 ↔ ¬ b.1 < 1000000000 := by
  unfold bsS
  by_cases g : b.1 < 1000000000
  · rw [if_pos g]
    exact ⟨fun z => by have := (q_nlt (b := 0) (by omega) (by omega)).mp z; omega, fun z => absurd g z⟩
  · rw [if_neg g]
    exact ⟨fun _ => g, fun _ => by decide⟩
theorem c13_nxt {I1 : z_I} (hM : MLay K) (hS : SeD I M w pn o) (hn : n < 10 ^ M) (f1 : Fz snM I I1) (hD : DgI I1 M n) (hB : BsR I1 M (rngS w (cS pn) o M 0 (n + 1) (1000000000, 0)))
    (hgo : ∀ n2 I2, n < n2 → n2 < 10 ^ M → Fz snM I I2 → DgI I2 M n2 → BsR I2 M (rngS w (cS pn) o M 0 n2 (1000000000, 0)) → rngS w (cS pn) o M 0 n2 (1000000000, 0) = rngS w (cS pn) o M 0 (n + 1) (1000000000, 0) → Z n0 xX13_findSeason (d + 1) 0 0 25 [(0, .ref (n0 + 59)), (1, .int (bsS (rngS w (cS pn) o M 0 (n + 1) (1000000000, 0)))), (2, .int 1)] [] K I2 L (z_q0 K Q))
    (hend : ∀ I2, Fz snM I I2 → BsR I2 M (snR w pn o M) → snR w pn o M = rngS w (cS pn) o M 0 (n + 1) (1000000000, 0) → Z n0 xX13_findSeason (d + 1) 0 0 25 [(0, .ref (n0 + 59)), (1, .int (bsS (rngS w (cS pn) o M 0 (n + 1) (1000000000, 0)))), (2, .int 0)] [] K I2 L (z_q0 K Q)) :
    nxP n0 d K I1 L Q (bsS (rngS w (cS pn) o M 0 (n + 1) (1000000000, 0))) (nI (tlS w 0 M n)) := by
  have h6 := hS.1
  have h124 : I1 59 124 = nI M := (hS.fm f1).2.2.1
  have cb := tlw_b (k := 0) (j := M) (N := n) hS (by omega)
  have ble : (rngS w (cS pn) o M 0 (n + 1) (1000000000, 0)).1 ≤ 1000000000 := rng_le (n + 1)
  -- the next number, once the last digit is set
  have key : ∀ n' I2, n ≤ n' → n' < 10 ^ M → rngS w (cS pn) o M 0 (n' + 1) (1000000000, 0) = rngS w (cS pn) o M 0 (n + 1) (1000000000, 0) → Fz (fun a _ => a = 150) I1 I2 → (∀ m, m < M → I2 150 m = nI (dgS M n' m)) → Z n0 xX13_findSeason (d + 1) 0 0 190 [(0, .ref (n0 + 59)), (1, .int (bsS (rngS w (cS pn) o M 0 (n + 1) (1000000000, 0)))), (4, .int (nI M - 1))] [] K I2 L (z_q0 K Q) := by
    intro n' I2 h1 h2 hr f2 v2
    have f12 : Fz snM I I2 := f1.trans (f2.mono (fun a q z => Or.inl z))
    refine c13_car (I := I2) (M := M) (T := n' + 1) hM h6 (fun hT I3 f3 => ?_) (fun hT I3 f3 d3 => ?_) M n' I2 0 (by omega) h2 (by simp) v2 (fun m a b => by omega) Fz.rfl'
    · have e : snR w pn o M = rngS w (cS pn) o M 0 (n + 1) (1000000000, 0) := by unfold snR; rw [← hT]; exact hr
      refine hend I3 (f12.trans (f3.mono (fun a q z => Or.inl z))) ?_ e
      rw [e]
      intro z m hm
      rw [f3 151 m (by omega), f2 151 m (by omega)]
      exact hB z m hm
    · refine hgo (n' + 1) I3 (by omega) hT (f12.trans (f3.mono (fun a q z => Or.inl z))) d3 ?_ hr
      rw [hr]
      intro z m hm
      rw [f3 151 m (by omega), f2 151 m (by omega)]
      exact hB z m hm
  unfold nxP
  rw [h124]
  by_cases hM0 : M = 0
  · have z1 : (nI M - 1 : Int32) < 0 := by rw [hM0]; decide
    have z2 : (if (0 : Int32) < nI M then (if bsS (rngS w (cS pn) o M 0 (n + 1) (1000000000, 0)) < 0 then (0 : Int32) else if nI (tlS w 0 M n) < bsS (rngS w (cS pn) o M 0 (n + 1) (1000000000, 0)) then 0 else 1) else 0) = 0 := by
      rw [if_neg (by rw [hM0]; decide)]
    refine ⟨fun _ y => absurd z1 y, ?_, ?_⟩
    · rw [if_pos z1]; exact q_inn (c := 0) (by omega) (by omega)
    · rw [z2, if_pos z1, if_pos rfl, if_pos z1]
      refine key n _ (Nat.le_refl _) hn rfl (Fz.z (S := fun a _ => a = 150) Fz.rfl' rfl) (fun m hm => by omega)
  · obtain ⟨l, hl⟩ : ∃ l, M = l + 1 := ⟨M - 1, by omega⟩
    have eM : nI M - 1 = nI l := by rw [hl, nI_prev]
    have ng : ¬ (nI M - 1 : Int32) < 0 := fun z => by rw [eM] at z; have := (q_nlt (b := 0) (by omega) (by omega)).mp z; omega
    have hp : 10 ^ M = 10 ^ l * 10 := by rw [hl]; exact Nat.pow_succ 10 l
    have dg : ∀ N m, dgS M N m = if m = l then N % 10 else dgS l (N / 10) m := fun N m => by rw [hl]; rfl
    rw [if_neg ng, if_neg ng, eM, q_cl (n := l) (by omega)]
    rw [eM] at key
    rw [if_pos (by exact nI_lt (a := 0) (show 0 < M by omega) (by omega))]
    refine ⟨fun _ _ => q_inn (by omega) (by omega), q_inn (by omega) (by omega), ?_⟩
    by_cases sk : (rngS w (cS pn) o M 0 (n + 1) (1000000000, 0)).1 < 1000000000 ∧ ¬ tlS w 0 M n < (rngS w (cS pn) o M 0 (n + 1) (1000000000, 0)).1
    · have e1 : (if bsS (rngS w (cS pn) o M 0 (n + 1) (1000000000, 0)) < 0 then (0 : Int32) else if nI (tlS w 0 M n) < bsS (rngS w (cS pn) o M 0 (n + 1) (1000000000, 0)) then 0 else 1) = 1 := by
        rw [if_neg (fun z => (bsS_n ble).mp z sk.1), if_neg]
        unfold bsS
        rw [if_pos sk.1]
        exact fun z => sk.2 ((q_nlt (by omega) (by omega)).mp z)
      rw [e1, if_neg (by decide)]
      refine key (n / 10 * 10 + 9) _ (by omega) (by omega) ?_ (Fz.z (S := fun a _ => a = 150) Fz.rfl' rfl) (fun m hm => ?_)
      · rw [show n / 10 * 10 + 9 + 1 = n + 1 + (n / 10 * 10 + 9 - n) by omega, rng_add]
        refine rng_id _ (fun i hi _ => ?_)
        have t1 : ∀ N, tlS w 0 M N = tlS w 0 l (N / 10) + N % 10 * w l := fun N => by rw [hl]; show _ + _ * w (0 + l) = _; rw [Nat.zero_add]
        have t2 := t1 n
        have t3 := t1 (0 + (n + 1) + i)
        rw [show (0 + (n + 1) + i) / 10 = n / 10 by omega] at t3
        have t4 : n % 10 * w l ≤ (0 + (n + 1) + i) % 10 * w l := Nat.mul_le_mul (by omega) (Nat.le_refl _)
        omega
      · rw [dg]
        by_cases x : m = l
        · subst x; rw [zI_s, if_pos rfl, show (n / 10 * 10 + 9) % 10 = 9 by omega]; rfl
        · rw [zI_d (by omega), if_neg x, hD m hm, dg, if_neg x, show (n / 10 * 10 + 9) / 10 = n / 10 by omega]
    · have e1 : (if bsS (rngS w (cS pn) o M 0 (n + 1) (1000000000, 0)) < 0 then (0 : Int32) else if nI (tlS w 0 M n) < bsS (rngS w (cS pn) o M 0 (n + 1) (1000000000, 0)) then 0 else 1) = 0 := by
        by_cases y : (rngS w (cS pn) o M 0 (n + 1) (1000000000, 0)).1 < 1000000000
        · rw [if_neg (fun z => (bsS_n ble).mp z y), if_pos]
          unfold bsS
          rw [if_pos y]
          exact nI_lt (Classical.byContradiction (fun z => sk ⟨y, z⟩)) (by omega)
        · rw [if_pos ((bsS_n ble).mpr y)]
      rw [e1, if_pos rfl]
      refine key n _ (Nat.le_refl _) hn rfl (Fz.z (S := fun a _ => a = 150) Fz.rfl' rfl) (fun m hm => ?_)
      by_cases x : m = l
      · subst x; rw [zI_s]; exact hD m hm
      · rw [zI_d (by omega)]; exact hD m hm
theorem c13_findSeason (hM : MLay K) (hS : SeD I M w pn o) (h : ∀ I', Fz snM I I' → BsR I' M (snR w pn o M) → Q (some (.int (bsS (snR w pn o M)))) I' L) : RM0 n0 xX13_findSeason (d + 1) [.ref (n0 + 59)] K I L Q := by
  have h6 := hS.1
  have ble : ∀ l, (rngS w (cS pn) o M 0 l (1000000000, 0)).1 ≤ 1000000000 := fun l => rng_le l
  -- the best, copied
  have l88 : ∀ n I1, n < 10 ^ M → Fz snM I I1 → DgI I1 M n → (∀ I2, Fz (fun a _ => a = 151) I1 I2 → (∀ m, m < M → I2 151 m = nI (dgS M n m)) → nxP n0 d K I2 L Q (nI (tlS w 0 M n)) (nI (tlS w 0 M n))) → ∀ v i I2, i + v = M → Fz (fun a _ => a = 151) I1 I2 → (∀ m, m < i → I2 151 m = nI (dgS M n m)) → Z n0 xX13_findSeason (d + 1) 0 0 88 [(0, .ref (n0 + 59)), (1, .int (nI (tlS w 0 M n))), (3, .int (nI (tlS w 0 M n))), (4, .int (nI i))] [] K I2 L (z_q0 K Q) := by
    intro n I1 hn f1 hD nx v
    induction v with
    | zero =>
      intro i I2 hi f2 v2
      have : i = M := by omega
      subst this
      refine wp_X13_findSeason_88 hM (iq (fun z => ?_) (nx I2 f2 v2))
      rw [f2 59 124 (by omega), f1 59 124 (by unfold snM; omega), hS.2.2.1] at z
      have := q_lt.mp z
      omega
    | succ v ih =>
      intro i I2 hi f2 v2
      refine wp_X13_findSeason_88 hM ?_
      rw [f2 59 124 (by omega), f1 59 124 (by unfold snM; omega), hS.2.2.1]
      refine ip (nI_lt (by omega) (by omega)) ⟨q_inn (by omega) (by omega), ?_⟩
      rw [q_cl (by omega), f2 150 i (by omega), hD i (by omega), ← nI_succ]
      refine ih (i + 1) _ (by omega) (Fz.z (S := fun a _ => a = 151) f2 rfl) (fun m hm => ?_)
      by_cases e : m = i
      · subst e; exact zI_s
      · rw [zI_d (by omega)]; exact v2 m (by omega)
  have l25 : ∀ v n I1, 10 ^ M ≤ n + v → n < 10 ^ M → Fz snM I I1 → DgI I1 M n → BsR I1 M (rngS w (cS pn) o M 0 n (1000000000, 0)) → Z n0 xX13_findSeason (d + 1) 0 0 25 [(0, .ref (n0 + 59)), (1, .int (bsS (rngS w (cS pn) o M 0 n (1000000000, 0)))), (2, .int 1)] [] K I1 L (z_q0 K Q) := by
    intro v
    induction v with
    | zero => intro n I1 a b; omega
    | succ v ih =>
      intro n I1 hv hn f1 hD hB
      have hS1 := hS.fm f1
      have cb := tlw_b (k := 0) (j := M) (N := n) hS (by omega)
      have bl := ble n
      have es : rngS w (cS pn) o M 0 (n + 1) (1000000000, 0) = snT w (cS pn) o M n (rngS w (cS pn) o M 0 n (1000000000, 0)) := by
        show snT w (cS pn) o M (0 + n) _ = _
        rw [Nat.zero_add]
        rfl
      have go : ∀ I2, Fz snM I I2 → DgI I2 M n → BsR I2 M (rngS w (cS pn) o M 0 (n + 1) (1000000000, 0)) → nxP n0 d K I2 L Q (bsS (rngS w (cS pn) o M 0 (n + 1) (1000000000, 0))) (nI (tlS w 0 M n)) := fun I2 f2 d2 b2 => c13_nxt hM hS hn f2 d2 b2 (fun n2 I3 g1 g2 f3 d3 b3 e3 => by rw [← e3]; exact ih n2 I3 (by omega) g2 f3 d3 b3) (fun I3 f3 b3 e3 => wp_X13_findSeason_25 hM (ip rfl (by rw [← e3]; exact h I3 f3 b3)))
      have l34 : ∀ u i, i + u = M → Z n0 xX13_findSeason (d + 1) 0 0 34 [(0, .ref (n0 + 59)), (1, .int (bsS (rngS w (cS pn) o M 0 n (1000000000, 0)))), (3, .int (nI (psS w M n i))), (4, .int (nI i))] [] K I1 L (z_q0 K Q) := by
        intro u
        induction u with
        | zero =>
          intro i hi
          have : i = M := by omega
          subst this
          refine wp_X13_findSeason_34 hM ?_
          have nlt : ¬ nI i < I1 59 124 := fun z => by rw [hS1.2.2.1] at z; have := q_lt.mp z; omega
          rw [ps_tl]
          refine iq nlt ?_
          -- it is met and takes less
          have win : metS (cS pn) o i n → tlS w 0 i n < (rngS w (cS pn) o i 0 n (1000000000, 0)).1 → Z n0 xX13_findSeason (d + 1) 0 0 88 [(0, .ref (n0 + 59)), (1, .int (nI (tlS w 0 i n))), (3, .int (nI (tlS w 0 i n))), (4, .int (nI 0))] [] K I1 L (z_q0 K Q) := fun mt lt => by
            have eb : rngS w (cS pn) o i 0 (n + 1) (1000000000, 0) = (tlS w 0 i n, n) := by rw [es]; unfold snT; rw [if_pos ⟨mt, lt⟩]
            refine l88 n I1 hn f1 hD (fun I2 f2 v2 => ?_) i 0 I1 (by omega) Fz.rfl' (fun m hm => by omega)
            have g := go I2 (f1.trans (f2.mono (fun a q z => Or.inr z))) (fun m hm => by rw [f2 150 m (by omega)]; exact hD m hm) (by rw [eb]; exact fun _ => v2)
            rw [eb] at g
            unfold bsS at g
            rw [if_pos (show (tlS w 0 i n, n).1 < 1000000000 by show tlS w 0 i n < 1000000000; omega)] at g
            exact g
          have lose : ¬ (metS (cS pn) o i n ∧ tlS w 0 i n < (rngS w (cS pn) o i 0 n (1000000000, 0)).1) → nxP n0 d K I1 L Q (bsS (rngS w (cS pn) o i 0 n (1000000000, 0))) (nI (tlS w 0 i n)) := fun nn => by
            have eb : rngS w (cS pn) o i 0 (n + 1) (1000000000, 0) = rngS w (cS pn) o i 0 n (1000000000, 0) := by rw [es]; unfold snT; rw [if_neg nn]
            have g := go I1 f1 hD (by rw [eb]; exact hB)
            rw [eb] at g
            exact g
          by_cases gb : bsS (rngS w (cS pn) o i 0 n (1000000000, 0)) < 0
          · have lt : tlS w 0 i n < (rngS w (cS pn) o i 0 n (1000000000, 0)).1 := by have := (bsS_n bl).mp gb; omega
            refine ip gb (c13_allMet hM hS1 hD ⟨_, rfl, ?_⟩)
            by_cases mt : metS (cS pn) o i n
            · rw [bI_t mt]; exact iq (by decide) (win mt lt)
            · rw [bI_f mt]; exact ip rfl (lose (fun z => mt z.1))
          · refine iq gb ?_
            have b9 : (rngS w (cS pn) o i 0 n (1000000000, 0)).1 < 1000000000 := Classical.byContradiction (fun z => gb ((bsS_n bl).mpr z))
            by_cases lt : tlS w 0 i n < (rngS w (cS pn) o i 0 n (1000000000, 0)).1
            · refine ip (by unfold bsS; rw [if_pos b9]; exact nI_lt lt (by omega)) (c13_allMet hM hS1 hD ⟨_, rfl, ?_⟩)
              by_cases mt : metS (cS pn) o i n
              · rw [bI_t mt]; exact iq (by decide) (win mt lt)
              · rw [bI_f mt]; exact ip rfl (lose (fun z => mt z.1))
            · refine iq (fun z => lt ?_) (lose (fun z => lt z.2))
              unfold bsS at z
              rw [if_pos b9] at z
              exact (q_nlt (by omega) (by omega)).mp z
        | succ u ihu =>
          intro i hi
          obtain ⟨_, a2, _, a4, _⟩ := hS1.2.2.2.1 i (by omega)
          refine wp_X13_findSeason_34 hM ?_
          have lt : nI i < I1 59 124 := by rw [hS1.2.2.1]; exact nI_lt (by omega) (by omega)
          refine ip lt ⟨q_inn (by omega) (by omega), ?_⟩
          rw [q_cl (by omega), hD i (by omega), a2, q_nmul, q_nadd, ← nI_succ]
          exact ihu (i + 1) (by omega)
      exact wp_X13_findSeason_25 hM (iq (by decide) (l34 M 0 (by omega)))
  have l2 : ∀ v i I1, i + v = 6 → Fz snM I I1 → (∀ m, m < i → I1 150 m = 0) → Z n0 xX13_findSeason (d + 1) 0 0 2 [(0, .ref (n0 + 59)), (1, .int (nI i))] [] K I1 L (z_q0 K Q) := by
    intro v
    induction v with
    | zero =>
      intro i I1 hi f1 v1
      have : i = 6 := by omega
      subst this
      refine wp_X13_findSeason_2 hM (iq (by decide) ?_)
      refine l25 (10 ^ M) 0 I1 (by omega) (Nat.pow_pos (by omega)) f1 (fun m hm => ?_) (fun z => by simp [rngS, fld] at z)
      rw [v1 m (by omega)]
      have := dg_sh (j := 0) (q := 0) M m (by omega)
      rw [Nat.zero_add, Nat.zero_mul, if_neg (by omega)] at this
      rw [this]; rfl
    | succ v ih =>
      intro i I1 hi f1 v1
      refine wp_X13_findSeason_2 hM (ip (nI_lt (b := 6) (by omega) (by omega)) ⟨q_inn (by omega) (by omega), ?_⟩)
      rw [q_cl (by omega), ← nI_succ]
      refine ih (i + 1) _ (by omega) (f1.z (Or.inl rfl)) (fun m hm => ?_)
      by_cases e : m = i
      · subst e; exact zI_s
      · rw [zI_d (by omega)]; exact v1 m (by omega)
  exact wp_X13_findSeason hM (l2 6 0 I (by omega) Fz.rfl' (fun m hm => by omega))
end SNF
section SNO
variable {n0 d M : Nat} {K : z_K} {I I' : z_I} {L : z_L} {w pn o : Nat → Nat} {P : z_I → z_L → Prop} {p0 : Int32}
theorem snQ_X {a j : Nat} (h : snQ a j) : gX K a j := Or.inr (by unfold snQ at h; omega)
theorem snM_X {a j : Nat} (h : snM a j) : gX K a j := Or.inr (by unfold snM at h; omega)
theorem op_season (hC : CLay K) (hM : MLay K) (hS : SeD I M w pn o) (hs0 : ∀ I' L', Fz (gX K) I I' → P I' L') :
    Op0 n0 xX12_season xX13_season (d + 11) (d + 2) [] K I L P := by
  have h6 := hS.1
  have hle : (snR w pn o M).1 ≤ 1000000000 := rng_le (10 ^ M)
  have dd : ∀ {Q : z_q}, RM0 n0 xX9_solve ((6 - M + d) + M + 4) [.ref (n0 + 52)] K I L Q → RM0 n0 xX9_solve (d + 10) [.ref (n0 + 52)] K I L Q := fun h => by
    rw [show (6 - M + d) + M + 4 = d + 10 by omega] at h
    exact h
  refine wp_X12_season hC (dd (c9_solve hC hS (fun I1 f1 b1 B1 => ⟨_, rfl, _, rfl, ?_⟩)))
  have f1m : SeD I1 M w pn o := hS.fr f1
  refine wp_X13_season hM (c13_findSeason hM f1m (fun I2 f2 B2 => ⟨_, rfl, ?_, hs0 I2 L ((f1.mono (fun _ _ z => snQ_X z)).trans (f2.mono (fun _ _ z => snM_X z)))⟩))
  by_cases g : (snR w pn o M).1 < 1000000000
  · rw [if_neg (fun z => (bsS_n hle).mp z g), if_pos g, if_neg (show ¬ (1 : Int32) = 0 by decide), b1]
    unfold bsS
    rw [if_pos g]
  · rw [if_neg g, if_pos rfl, if_pos ((bsS_n hle).mpr g)]
theorem op_often (hC : CLay K) (hM : MLay K) (hS : SeD I M w pn o) (hs0 : ∀ I' L', Fz (gX K) I I' → P I' L') (hr : ∀ k, 1 ≤ k → k ≤ 7 → P (rfI I k) L) :
    Op0 n0 xX12_often xX13_often (d + 11) (d + 2) [.int p0] K I L P := by
  have h6 := hS.1
  have hle : (snR w pn o M).1 ≤ 1000000000 := rng_le (10 ^ M)
  have q0 : ∀ x : Int32, (x < 0 ↔ x.toInt < 0) := fun x => q_lt
  have dd : ∀ {Q : z_q}, RM0 n0 xX9_solve ((6 - M + d) + M + 4) [.ref (n0 + 52)] K I L Q → RM0 n0 xX9_solve (d + 10) [.ref (n0 + 52)] K I L Q := fun h => by
    rw [show (6 - M + d) + M + 4 = d + 10 by omega] at h
    exact h
  by_cases gi : 0 ≤ p0.toInt ∧ p0.toInt < M
  · obtain ⟨i, rfl, _, ei⟩ := q_of gi.1
    have hi : i < M := by omega
    refine wp_X12_often hC (iq (fun z => by have := (q0 _).mp z; omega) ?_)
    rw [hS.2.1]
    refine ip (nI_lt hi (by omega)) (dd (c9_solve hC hS (fun I1 f1 b1 B1 => ⟨_, rfl, fun _ => q_inn (by omega) (by omega), _, rfl, ?_⟩)))
    have f1m : SeD I1 M w pn o := hS.fr f1
    refine wp_X13_often hM (c13_in_n (n := M) hM (by rw [f1m.2.2.1]) (by omega) ⟨_, rfl, ?_⟩)
    rw [bI_t gi]
    refine iq (by decide) (c13_findSeason hM f1m (fun I2 f2 B2 => ⟨_, rfl, fun _ => q_inn (by omega) (by omega), ?_, hs0 I2 L ((f1.mono (fun _ _ z => snQ_X z)).trans (f2.mono (fun _ _ z => snM_X z)))⟩))
    rw [q_cl (by omega)]
    by_cases g : (snR w pn o M).1 < 1000000000
    · rw [if_neg (fun z => (bsS_n hle).mp z g), if_pos g, if_neg (show ¬ (1 : Int32) = 0 by decide), B1 g i hi, B2 g i hi]
    · rw [if_neg g, if_pos rfl, if_pos ((bsS_n hle).mpr g)]
  · have rf : OpR n0 xX13_often (d + 2) [.int p0] K (zI I 1 1 (I 1 1 + 1)) L P (-1) := by
      refine wp_X13_often hM (c13_in_n (n := M) hM (by rw [zI_r (by omega), hS.2.2.1]) (by omega) ⟨_, rfl, ?_⟩)
      rw [bI_f gi]
      exact ip rfl (op_rr 1 hM (by omega) rfl (hr 1 (by omega) (by omega)))
    by_cases g : p0.toInt < 0
    · exact wp_X12_often hC (ip ((q0 _).mpr g) (op_rf 1 hC (by omega) (by omega) rfl rf))
    · refine wp_X12_often hC (iq (fun z => g ((q0 _).mp z)) ?_)
      rw [hS.2.1]
      refine iq (fun z => ?_) (op_rf 1 hC (by omega) (by omega) rfl rf)
      have := q_lt.mp z
      rw [q_nI (by omega)] at this
      omega
end SNO
