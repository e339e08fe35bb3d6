/-! the reference's cells -/
def fcT (f : Nat → Nat → Bool) (i j : Nat) (s : Nat × Nat × Nat × Nat × Nat) : Nat × Nat × Nat × Nat × Nat := if f i j = true then (s.1 + 1, (if i < s.2.1 then i else s.2.1), (if j < s.2.2.1 then j else s.2.2.1), i, (if s.2.2.2.2 < j then j else s.2.2.2.2)) else s
def fcC (f : Nat → Nat → Bool) (i : Nat) (s : Nat × Nat × Nat × Nat × Nat) : Nat → Nat × Nat × Nat × Nat × Nat
  | 0 => s
  | j + 1 => fcT f i j (fcC f i s j)
def fcA (f : Nat → Nat → Bool) : Nat → Nat × Nat × Nat × Nat × Nat
  | 0 => (0, 24, 24, 0, 0)
  | i + 1 => fcC f i (fcA f i) 24
def fcQ (a j : Nat) : Prop := a = 114 ∨ (a = 59 ∧ (j = 84 ∨ j = 85))
def inB (I : z_I) (N m : Nat) (s : Int32) (i j : Nat) : Bool := insN (wkB I N ((2 * (i : Int) + 1) * s.toInt) ((2 * (j : Int) + 1) * s.toInt)) m
section FCL
variable {n0 d : Nat} {K : z_K} {I : z_I} {L : z_L} {Q : z_q} {N m : Nat} {s lx ly : Int32}
theorem fcC_b {f : Nat → Nat → Bool} {i B : Nat} {s : Nat × Nat × Nat × Nat × Nat} (hi : i < 24) (h1 : s.1 ≤ B) (h2 : s.2.1 ≤ 24) (h3 : s.2.2.1 ≤ 24) (h4 : s.2.2.2.1 ≤ 24) (h5 : s.2.2.2.2 ≤ 24) : ∀ j, j ≤ 24 → (fcC f i s j).1 ≤ B + j ∧ (fcC f i s j).2.1 ≤ 24 ∧ (fcC f i s j).2.2.1 ≤ 24 ∧ (fcC f i s j).2.2.2.1 ≤ 24 ∧ (fcC f i s j).2.2.2.2 ≤ 24 := by
  intro j
  induction j with
  | zero => intro _; exact ⟨h1, h2, h3, h4, h5⟩
  | succ j ih =>
    intro hj
    obtain ⟨a1, a2, a3, a4, a5⟩ := ih (by omega)
    show (fcT f i j (fcC f i s j)).1 ≤ _ ∧ (fcT f i j (fcC f i s j)).2.1 ≤ _ ∧ (fcT f i j (fcC f i s j)).2.2.1 ≤ _ ∧ (fcT f i j (fcC f i s j)).2.2.2.1 ≤ _ ∧ (fcT f i j (fcC f i s j)).2.2.2.2 ≤ _
    generalize fcC f i s j = q at *
    unfold fcT
    by_cases c : f i j = true
    · rw [if_pos c]
      refine ⟨?_, ?_, ?_, ?_, ?_⟩
      · show q.1 + 1 ≤ _; omega
      · show (if i < q.2.1 then i else q.2.1) ≤ 24; split <;> omega
      · show (if j < q.2.2.1 then j else q.2.2.1) ≤ 24; split <;> omega
      · show i ≤ 24; omega
      · show (if q.2.2.2.2 < j then j else q.2.2.2.2) ≤ 24; split <;> omega
    · rw [if_neg c]
      exact ⟨by omega, a2, a3, a4, a5⟩
theorem fcA_b {f : Nat → Nat → Bool} : ∀ i, i ≤ 24 → (fcA f i).1 ≤ 24 * i ∧ (fcA f i).2.1 ≤ 24 ∧ (fcA f i).2.2.1 ≤ 24 ∧ (fcA f i).2.2.2.1 ≤ 24 ∧ (fcA f i).2.2.2.2 ≤ 24 := by
  intro i
  induction i with
  | zero => intro _; exact ⟨Nat.le_refl 0, Nat.le_refl 24, Nat.le_refl 24, Nat.zero_le 24, Nat.zero_le 24⟩
  | succ i ih =>
    intro hi
    obtain ⟨a1, a2, a3, a4, a5⟩ := ih (by omega)
    have := fcC_b (f := f) (i := i) (B := 24 * i) (s := fcA f i) (by omega) a1 a2 a3 a4 a5 24 (Nat.le_refl _)
    exact this
theorem n_if {a b c e : Nat} (ha : a < 2 ^ 31) (hb : b < 2 ^ 31) : (if nI a < nI b then nI c else nI e) = nI (if a < b then c else e) := by
  by_cases g : a < b
  · rw [if_pos g, if_pos ((q_nlt ha hb).mpr g)]
  · rw [if_neg g, if_neg (fun z => g ((q_nlt ha hb).mp z))]
theorem c13_fc307 {M : Nat} {a6 : Int32} (hM : MLay K) (hMM : M ≤ 162) (h88 : I 59 88 = nI M)
    (h : ∀ I', Fz (fun a _ => a = 115 ∨ a = 116) I I' → (∀ q, q < M → I' 115 q = 2 * (I 115 q - lx) ∧ I' 116 q = 2 * (I 116 q - ly)) → Z n0 xX13_findCells (d + 1) 0 0 382 [(0, .ref (n0 + 59)), (6, .int a6), (7, .int 0), (8, .int 24), (9, .int 24), (10, .int 0)] [] K (zI (zI I' 59 84 0) 59 85 0) L (z_q0 K Q)) :
    ∀ w k I1, k + w = M → Fz (fun a _ => a = 115 ∨ a = 116) I I1 → (∀ q, q < k → I1 115 q = 2 * (I 115 q - lx) ∧ I1 116 q = 2 * (I 116 q - ly)) → (∀ q, k ≤ q → I1 115 q = I 115 q ∧ I1 116 q = I 116 q) → Z n0 xX13_findCells (d + 1) 0 0 307 [(0, .ref (n0 + 59)), (2, .int lx), (3, .int ly), (6, .int a6), (7, .int (nI k))] [] K I1 L (z_q0 K Q) := by
  intro w
  induction w with
  | zero =>
    intro k I1 hk f1 v1 v2
    have : k = M := by omega
    subst this
    refine wp_X13_findCells_307 hM ?_
    rw [f1 59 88 (by omega), h88]
    exact iq (fun z => by have := q_lt.mp z; omega) (h I1 f1 v1)
  | succ w ih =>
    intro k I1 hk f1 v1 v2
    refine wp_X13_findCells_307 hM ?_
    rw [f1 59 88 (by omega), h88]
    refine ip (nI_lt (by omega) (by omega)) ⟨q_inn (by omega) (by omega), ?_⟩
    rw [q_cl (by omega), ← nI_succ, (v2 k (Nat.le_refl _)).1, (v2 k (Nat.le_refl _)).2]
    refine ih (k + 1) _ (by omega) ((f1.z (Or.inl rfl)).z (Or.inr rfl)) (fun q hq => ?_) (fun q hq => ?_)
    · by_cases e : q = k
      · subst e
        rw [zI_r (by omega), zI_s, zI_s]; exact ⟨rfl, rfl⟩
      · rw [zI_r (by omega), zI_d (by omega), zI_d (by omega), zI_r (by omega)]; exact v1 q (by omega)
    · rw [zI_r (by omega), zI_d (by omega), zI_d (by omega), zI_r (by omega)]; exact v2 q (by omega)
theorem c13_fc400 {i : Nat} (hM : MLay K) (hm : I 59 88 = nI (m + 1)) (hm2 : m < 162) (hN : I 59 61 = nI N) (hN2 : N < 162) (hw : ∀ k, k ≤ m → ckW (I 115 k) ∧ ckW (I 116 k)) (h0 : 1 ≤ s.toInt) (h1 : s.toInt ≤ 100000) (hi : i < 24) {s0 : Nat × Nat × Nat × Nat × Nat} (hb : s0.1 ≤ 24 * i ∧ s0.2.1 ≤ 24 ∧ s0.2.2.1 ≤ 24 ∧ s0.2.2.2.1 ≤ 24 ∧ s0.2.2.2.2 ≤ 24)
    (h : ∀ I', Fz fcQ I I' → (∀ c, c ≠ i → I' 114 c = I 114 c) → (∀ q, q < 32 → tb (I' 114 i) q = (decide (q < 24) && inB I N m s i q)) → I' 59 84 = nI (fcC (inB I N m s) i s0 24).2.2.2.1 → I' 59 85 = nI (fcC (inB I N m s) i s0 24).2.2.2.2 → Z n0 xX13_findCells (d + 2) 0 0 382 [(0, .ref (n0 + 59)), (6, .int s), (7, .int (nI (fcC (inB I N m s) i s0 24).1)), (8, .int (nI (fcC (inB I N m s) i s0 24).2.1)), (9, .int (nI (fcC (inB I N m s) i s0 24).2.2.1)), (10, .int (nI (i + 1)))] [] K I' L (z_q0 K Q)) :
    ∀ w j I1, j + w = 24 → Fz fcQ I I1 → (∀ c, c ≠ i → I1 114 c = I 114 c) → (∀ q, q < 32 → tb (I1 114 i) q = (decide (q < j) && inB I N m s i q)) → I1 59 84 = nI (fcC (inB I N m s) i s0 j).2.2.2.1 → I1 59 85 = nI (fcC (inB I N m s) i s0 j).2.2.2.2 → Z n0 xX13_findCells (d + 2) 0 0 400 [(0, .ref (n0 + 59)), (6, .int s), (7, .int (nI (fcC (inB I N m s) i s0 j).1)), (8, .int (nI (fcC (inB I N m s) i s0 j).2.1)), (9, .int (nI (fcC (inB I N m s) i s0 j).2.2.1)), (10, .int (nI i)), (11, .int (nI j))] [] K I1 L (z_q0 K Q) := by
  intro w
  induction w with
  | zero =>
    intro j I1 hj f1 o1 t1 e84 e85
    have : j = 24 := by omega
    subst this
    refine wp_X13_findCells_400 hM (iq (by decide) ?_)
    rw [← nI_succ]
    exact h I1 f1 o1 t1 e84 e85
  | succ w ih =>
    intro j I1 hj f1 o1 t1 e84 e85
    obtain ⟨k1, k2, k3⟩ := q_mid h0 h1 hi
    obtain ⟨l1, l2, l3⟩ := q_mid h0 h1 (show j < 24 by omega)
    have e115 : I1 115 = I 115 := funext fun q => f1 115 q (by unfold fcQ; omega)
    have e116 : I1 116 = I 116 := funext fun q => f1 116 q (by unfold fcQ; omega)
    have ew : ∀ a b, wkB I1 N a b = wkB I N a b := fun a b => funext fun k => by unfold wkB; rw [e115, e116]
    obtain ⟨b1, b2, b3, b4, b5⟩ := fcC_b (f := inB I N m s) (i := i) (B := 24 * i) (s := s0) hi hb.1 hb.2.1 hb.2.2.1 hb.2.2.2.1 hb.2.2.2.2 j (by omega)
    refine wp_X13_findCells_400 hM (ip (nI_lt (b := 24) (by omega) (by omega)) (c13_isInside (m := m) (N := N) hM (by rw [f1 59 88 (by unfold fcQ; omega)]; exact hm) hm2 (by rw [f1 59 61 (by unfold fcQ; omega)]; exact hN) hN2 (fun k hk => by rw [e115, e116]; exact hw k hk) (by rw [q_i2l, k1]; omega) (by rw [q_i2l, l1]; omega) ⟨_, rfl, ?_⟩))
    rw [q_i2l, q_i2l, k1, l1, ew]
    have st : fcC (inB I N m s) i s0 (j + 1) = fcT (inB I N m s) i j (fcC (inB I N m s) i s0 j) := rfl
    by_cases g : inB I N m s i j = true
    · rw [show bI (insN (wkB I N ((2 * (i : Int) + 1) * s.toInt) ((2 * (j : Int) + 1) * s.toInt)) m = true) = 1 from bI_t g]
      refine iq (by decide) ⟨q_inn (by omega) (by omega), ?_⟩
      rw [q_cl (by omega), e85, ← nI_succ, ← nI_succ, n_if (by omega) (by omega), n_if (by omega) (by omega), n_if (by omega) (by omega)]
      have nx := ih (j + 1) (zI (zI (zI I1 114 i (I1 114 i ||| ((1 : Int32) <<< (nI j &&& 31 : Int32)))) 59 84 (nI i)) 59 85 (nI (if (fcC (inB I N m s) i s0 j).2.2.2.2 < j then j else (fcC (inB I N m s) i s0 j).2.2.2.2))) (by omega) (((f1.z (Or.inl rfl)).z (Or.inr ⟨rfl, Or.inl rfl⟩)).z (Or.inr ⟨rfl, Or.inr rfl⟩)) (fun c hc => by rw [zI_r (by omega), zI_r (by omega), zI_d (by omega)]; exact o1 c hc) (fun q hq => ?_) ?_ ?_
      · rw [st] at nx
        unfold fcT at nx
        rw [if_pos g] at nx
        exact nx
      · rw [zI_r (by omega), zI_r (by omega), zI_s, tb_or, t1 q hq, tb_one (by omega) hq]
        by_cases e : q = j
        · subst e
          rw [decide_eq_true (rfl : q = q), Bool.or_true, decide_eq_true (show q < q + 1 by omega), g]; rfl
        · rw [decide_eq_false e, Bool.or_false, show decide (q < j + 1) = decide (q < j) from decide_eq_decide.mpr (by omega)]
      · rw [zI_d (by omega), zI_s, st]; unfold fcT; rw [if_pos g]
      · rw [zI_s, st]; unfold fcT; rw [if_pos g]
    · rw [show bI (insN (wkB I N ((2 * (i : Int) + 1) * s.toInt) ((2 * (j : Int) + 1) * s.toInt)) m = true) = 0 from bI_f g]
      refine ip rfl ?_
      rw [← nI_succ]
      have sn : fcC (inB I N m s) i s0 (j + 1) = fcC (inB I N m s) i s0 j := by rw [st]; unfold fcT; rw [if_neg g]
      have nx := ih (j + 1) I1 (by omega) f1 o1 (fun q hq => ?_) (by rw [sn]; exact e84) (by rw [sn]; exact e85)
      · rw [sn] at nx; exact nx
      · rw [t1 q hq]
        by_cases e : q = j
        · subst e
          rw [show inB I N m s i q = false by simpa using g, Bool.and_false, Bool.and_false]
        · rw [show decide (q < j + 1) = decide (q < j) from decide_eq_decide.mpr (by omega)]
end FCL
