/-! turned shapes of the reference, and its marker's cells -/
section TRN
variable {n0 d N : Nat} {K : z_K} {I I' : z_I} {L : z_L} {Q : z_q} {F : Nat → Nat → Nat → Bool} {i : Nat}
theorem c13_turnedOver {x : Int32} {hg : Nat} (hM : MLay K) (hh : hg ≤ 24) (h : ∀ v : Int32, (∀ q, q < 32 → tb v q = (decide (q < hg) && tb x (hg - 1 - q))) → Q (some (.int v)) I L) : RM0 n0 xX13_turnedOver d [.int x, .int (nI hg)] K I L Q := by
  have lp : ∀ m j v, j + m = hg → (∀ q, q < 32 → tb v q = (decide (q < hg) && (decide (hg - 1 - q < j) && tb x (hg - 1 - q)))) → Z n0 xX13_turnedOver d 0 0 4 [(0, .int x), (1, .int (nI hg)), (2, .int v), (3, .int (nI j))] [] K I L (z_q0 K Q) := by
    intro m
    induction m with
    | zero =>
      intro j v hj hv
      refine wp_X13_turnedOver_4 hM (iq (fun z => by have := (q_nlt (by omega) (by omega)).mp z; omega) (h v (fun q hq => ?_)))
      rw [hv q hq]
      by_cases e : q < hg
      · rw [decide_eq_true (show hg - 1 - q < j by omega), Bool.true_and]
      · rw [decide_eq_false e, Bool.false_and, Bool.false_and]
    | succ m ih =>
      intro j v hj hv
      refine wp_X13_turnedOver_4 hM (ip (nI_lt (by omega) (by omega)) ?_)
      have es : nI hg - 1 - nI j = nI (hg - 1 - j) := by
        rw [show hg = j + (hg - 1 - j) + 1 by omega, nI_prev, nI_sb]
        congr 1
        omega
      rw [tb_shr (by omega), es, ← nI_succ]
      refine ih (j + 1) _ (by omega) (fun q hq => ?_)
      rw [tb_or, hv q hq, tb_shl (by omega) hq, tb_bI (by omega)]
      by_cases z : hg - 1 - q = j
      · rw [z, decide_eq_false (Nat.lt_irrefl j), decide_eq_true (show j < j + 1 by omega), Bool.false_and, Bool.and_false, Bool.false_or, Bool.true_and]
        by_cases y : q < hg
        · have : q = hg - 1 - j := by omega
          rw [decide_eq_true y, decide_eq_true (show hg - 1 - j ≤ q by omega), decide_eq_true (show q - (hg - 1 - j) = 0 by omega), Bool.and_true, Bool.true_and, Bool.true_and]
          cases tb x j <;> rfl
        · rw [decide_eq_false y, Bool.false_and, decide_eq_false (show ¬ q - (hg - 1 - j) = 0 by omega), Bool.and_false, Bool.and_false]
      · rw [show decide (hg - 1 - q < j + 1) = decide (hg - 1 - q < j) from decide_eq_decide.mpr (by omega)]
        have : (decide (hg - 1 - j ≤ q) && (decide (tb x j = true) && decide (q - (hg - 1 - j) = 0))) = false := by
          by_cases y : hg - 1 - j ≤ q
          · by_cases y2 : q < hg
            · rw [decide_eq_false (show ¬ q - (hg - 1 - j) = 0 by omega), Bool.and_false, Bool.and_false]
            · rw [decide_eq_false (show ¬ q - (hg - 1 - j) = 0 by omega), Bool.and_false, Bool.and_false]
          · rw [decide_eq_false y, Bool.false_and]
        rw [this, Bool.or_false]
  exact wp_X13_turnedOver hM (lp hg 0 0 (by omega) (fun q hq => by rw [tb_0, decide_eq_false (Nat.not_lt_zero _), Bool.false_and, Bool.and_false]))
/-- a marker's shape, as the reference keeps it -/
def MkC (I : z_I) (i : Nat) (f : Nat → Nat → Bool) : Prop := 0 < (fcA f 24).1 ∧ I 122 i = nI (fcA f 24).1 ∧ I 120 i = nI (shW f) ∧ I 121 i = nI (shH f) ∧ ∀ k, k < 24 → ∀ q, q < 32 → tb (I 119 (24 * i + k)) q = shB f k q
def tnB (f : Nat → Nat → Bool) (t : Nat) : Nat → Nat → Bool := if t = 0 then shB f else shT f
theorem c13_findTurned (hM : MLay K) (hN : N ≤ 4) (h89 : I 59 89 = nI N) (hm : ∀ i, i < N → MkC I i (F i))
    (h : ∀ I', Fz (fun a _ => a = 130) I I' → (∀ i, i < N → ∀ t, t ≤ 1 → ∀ k, k < 24 → ∀ q, q < 32 → tb (I' 130 (48 * i + 24 * t + k)) q = tnB (F i) t k q) → Q none I' L) : RM0 n0 xX13_findTurned (d + 1) [.ref (n0 + 59)] K I L Q := by
  have l12 : ∀ i, i < N → (∀ I1, Fz (fun a _ => a = 130) I I1 → (∀ i', i' < i + 1 → ∀ t, t ≤ 1 → ∀ k, k < 24 → ∀ q, q < 32 → tb (I1 130 (48 * i' + 24 * t + k)) q = tnB (F i') t k q) → Z n0 xX13_findTurned (d + 1) 0 0 2 [(0, .ref (n0 + 59)), (1, .int (nI (i + 1)))] [] K I1 L (z_q0 K Q)) →
      ∀ m k I1, k + m = 24 → Fz (fun a _ => a = 130) I I1 → (∀ i', i' < i → ∀ t, t ≤ 1 → ∀ k, k < 24 → ∀ q, q < 32 → tb (I1 130 (48 * i' + 24 * t + k)) q = tnB (F i') t k q) → (∀ t, t ≤ 1 → ∀ k', k' < k → ∀ q, q < 32 → tb (I1 130 (48 * i + 24 * t + k')) q = tnB (F i) t k' q) → Z n0 xX13_findTurned (d + 1) 0 0 12 [(0, .ref (n0 + 59)), (1, .int (nI i)), (2, .int (nI k))] [] K I1 L (z_q0 K Q) := by
    intro i hi nx m
    obtain ⟨hc, m122, m120, m121, m119⟩ := hm i hi
    obtain ⟨b1, b2, b3, b4, _⟩ := sh_b hc
    induction m with
    | zero =>
      intro k I1 hk f1 o1 v1
      have : k = 24 := by omega
      subst this
      refine wp_X13_findTurned_12 hM (iq (by decide) ?_)
      rw [← nI_succ]
      refine nx I1 f1 (fun i' hi' t ht k hk q hq => ?_)
      by_cases e : i' = i
      · subst e; exact v1 t ht k hk q hq
      · exact o1 i' (by omega) t ht k hk q hq
    | succ m ih =>
      intro k I1 hk f1 o1 v1
      have x1 : (24 : Int32) * nI i = nI (24 * i) := q_nmul (a := 24)
      have x2 : (48 : Int32) * nI i = nI (48 * i) := q_nmul (a := 48)
      have e119 : I1 119 = I 119 := funext fun j => f1 119 j (by omega)
      have x3 : nI (48 * i) + 24 = nI (48 * i + 24) := q_nadd (b := 24)
      refine wp_X13_findTurned_12 hM (ip (nI_lt (b := 24) (by omega) (by omega)) ?_)
      rw [x1, x2, x3, q_nadd, q_nadd, q_nadd, q_cl (n := i) (by omega), q_cl (n := 24 * i + k) (by omega), q_cl (n := 48 * i + k) (by omega), q_cl (n := 48 * i + 24 + k) (by omega), e119, f1 120 _ (by omega), f1 121 _ (by omega), m120, m121, q_nadd, ← nI_succ]
      refine ⟨q_inn (by omega) (by omega), q_inn (by omega) (by omega), q_inn (by omega) (by omega), ?_⟩
      have step : ∀ (w : Int32), (∀ q, q < 32 → tb w q = shT (F i) k q) → Z n0 xX13_findTurned (d + 1) 0 0 12 [(0, .ref (n0 + 59)), (1, .int (nI i)), (2, .int (nI (k + 1)))] [] K (zI (zI I1 130 (48 * i + k) (I 119 (24 * i + k))) 130 (48 * i + 24 + k) w) L (z_q0 K Q) := by
        intro w hw
        refine ih (k + 1) _ (by omega) (Fz.z (S := fun a _ => a = 130) (Fz.z (S := fun a _ => a = 130) f1 rfl) rfl) (fun i' hi' t ht k' hk' q hq => ?_) (fun t ht k' hk' q hq => ?_)
        · rw [zI_d (by omega), zI_d (by omega)]; exact o1 i' hi' t ht k' hk' q hq
        · have ht' : t = 0 ∨ t = 1 := by omega
          rcases ht' with e | e
          · subst e
            rw [zI_d (by omega)]
            by_cases e : k' = k
            · subst e; rw [show 48 * i + 24 * 0 + k' = 48 * i + k' by omega, zI_s]; exact m119 k' (by omega) q hq
            · rw [zI_d (by omega)]; exact v1 0 (by omega) k' (by omega) q hq
          · subst e
            by_cases e : k' = k
            · subst e; rw [show 48 * i + 24 * 1 + k' = 48 * i + 24 + k' by omega, zI_s]; exact hw q hq
            · rw [zI_d (by omega), zI_d (by omega)]; exact v1 1 (by omega) k' (by omega) q hq
      by_cases g : k < shW (F i)
      · have ix : nI (24 * i + shW (F i)) - 1 - nI k = nI (24 * i + (shW (F i) - 1 - k)) := by
          rw [show 24 * i + shW (F i) = (k + (24 * i + (shW (F i) - 1 - k))) + 1 by omega, nI_prev, nI_sb]
        rw [ix]
        refine ip (nI_lt g (by omega)) ⟨q_inn (by omega) (by omega), ?_⟩
        rw [q_cl (n := 24 * i + (shW (F i) - 1 - k)) (by omega)]
        refine c13_turnedOver hM b4 (fun w hw => ⟨_, rfl, q_inn (by omega) (by omega), step w (fun q hq => ?_)⟩)
        rw [hw q hq]
        unfold shT
        rw [decide_eq_true g, Bool.true_and]
        by_cases y : q < shH (F i)
        · rw [m119 _ (by omega) _ (by omega)]
        · rw [decide_eq_false y, Bool.false_and, Bool.false_and]
      · refine iq (fun z => g ((q_nlt (by omega) (by omega)).mp z)) ⟨q_inn (by omega) (by omega), step 0 (fun q hq => ?_)⟩
        unfold shT
        rw [tb_0, decide_eq_false g, Bool.false_and]
  have l2 : ∀ m i I1, i + m = N → Fz (fun a _ => a = 130) I I1 → (∀ i', i' < i → ∀ t, t ≤ 1 → ∀ k, k < 24 → ∀ q, q < 32 → tb (I1 130 (48 * i' + 24 * t + k)) q = tnB (F i') t k q) → Z n0 xX13_findTurned (d + 1) 0 0 2 [(0, .ref (n0 + 59)), (1, .int (nI i))] [] K I1 L (z_q0 K Q) := by
    intro m
    induction m with
    | zero =>
      intro i I1 hi f1 o1
      refine wp_X13_findTurned_2 hM ?_
      rw [f1 59 89 (by omega), h89]
      exact iq (fun z => by have := (q_nlt (by omega) (by omega)).mp z; omega) (h I1 f1 (fun i' hi' => o1 i' (by omega)))
    | succ m ih =>
      intro i I1 hi f1 o1
      refine wp_X13_findTurned_2 hM ?_
      rw [f1 59 89 (by omega), h89]
      exact ip (nI_lt (by omega) (by omega)) (l12 i (by omega) (fun I2 f2 o2 => ih (i + 1) I2 (by omega) f2 o2) 24 0 I1 (by omega) f1 o1 (fun t ht k' hk' => by omega))
  exact wp_X13_findTurned hM (l2 N 0 I (by omega) Fz.rfl' (fun i' hi' => by omega))
end TRN
