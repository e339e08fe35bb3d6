/-! the cells that a way turns over -/
def grI (x y u v s : Int32) (j i : Nat) : Int32 := if y < v then if (((((((2 * nI i) + 1) * s) - x) : Int32).toInt64) * (((v - y) : Int32).toInt64)) < ((((u - x) : Int32).toInt64) * ((((((2 * nI j) + 1) * s) - y) : Int32).toInt64)) then 1 else 0 else if ((((u - x) : Int32).toInt64) * ((((((2 * nI j) + 1) * s) - y) : Int32).toInt64)) < (((((((2 * nI i) + 1) * s) - x) : Int32).toInt64) * (((v - y) : Int32).toInt64)) then 1 else 0
def grB (x y u v s : Int32) (j i : Nat) : Bool := decide (grI x y u v s j i ≠ 0)
def preB (g : Nat → Bool) : Nat → Bool
  | 0 => g 0
  | i + 1 => preB g i && g (i + 1)
def crX (y v s : Int32) (j : Nat) : Bool := decide (¬ ((if (((2 * nI j) + 1) * s) < y then 1 else 0 : Int32) = (if (((2 * nI j) + 1) * s) < v then 1 else 0)))
/-- the cell at column i, row j is turned over -/
def crB (x y u v s : Int32) (i j : Nat) : Bool := decide (j < 24) && (crX y v s j && preB (grB x y u v s j) i)
section CRS
variable {n0 d : Nat} {K : z_K} {I : z_I} {L : z_L} {Q : z_q} {x y u v s : Int32} {o c : Nat}
theorem c10_cr65 {j : Nat} (ho : o < K.1) (hc : (K.2.1 o).1 = 10) (hr : K.2.2 o 0 = some c) (hcl : c < K.1) (hs : K.2.1 c = (20, 24)) (hj : j < 24) :
    ∀ w i I1, i + w = 24 → (∀ k, k + 1 = i → preB (grB x y u v s j) k = true) → (∀ I', Fz (fun a _ => a = c) I1 I' → (∀ k, k < i → I' c k = I1 c k) → (∀ k, i ≤ k → k < 24 → I' c k = if preB (grB x y u v s j) k = true then I1 c k ^^^ ((1 : Int32) <<< (nI j &&& 31 : Int32)) else I1 c k) → Z n0 xX10_cross d 0 0 3 [(0, .ref (n0 + o)), (1, .int x), (2, .int y), (3, .int u), (4, .int v), (5, .int s), (6, .int (nI (j + 1)))] [] K I' L (z_q0 K Q)) →
    Z n0 xX10_cross d 0 0 65 [(0, .ref (n0 + o)), (1, .int x), (2, .int y), (3, .int u), (4, .int v), (5, .int s), (6, .int (nI j)), (8, .long ((((u - x) : Int32).toInt64) * ((((((2 * nI j) + 1) * s) - y) : Int32).toInt64))), (10, .int (nI i))] [] K I1 L (z_q0 K Q) := by
  intro w
  induction w with
  | zero =>
    intro i I1 hi hp h
    have : i = 24 := by omega
    subst this
    refine wp_X10_cross_65 (iq (by decide) ?_)
    rw [← nI_succ]
    exact h I1 Fz.rfl' (fun _ _ => rfl) (fun k h1 h2 => by omega)
  | succ w ih =>
    intro i I1 hi hp h
    refine wp_X10_cross_65 (ip (nI_lt (b := 24) (by omega) (by omega)) ?_)
    change if grI x y u v s j i = 0 then _ else _
    by_cases g : grI x y u v s j i = 0
    · refine ip g ?_
      rw [← nI_succ]
      have gb : grB x y u v s j i = false := decide_eq_false (fun z => z g)
      have pb : ∀ n, preB (grB x y u v s j) (i + n) = false := by
        intro n
        induction n with
        | zero =>
          cases i with
          | zero => exact gb
          | succ i => show (_ && grB x y u v s j (i + 1)) = false; rw [gb, Bool.and_false]
        | succ n ih => show (preB (grB x y u v s j) (i + n) && _) = false; rw [ih, Bool.false_and]
      refine h I1 Fz.rfl' (fun _ _ => rfl) (fun k h1 h2 => ?_)
      have := pb (k - i)
      rw [show i + (k - i) = k by omega] at this
      rw [this]
      rfl
    · refine iq g ⟨ho, hc, c, hr, 24, hcl, hs, q_inn (by omega) (by omega), ?_⟩
      rw [q_cl (by omega), ← nI_succ]
      have gb : grB x y u v s j i = true := decide_eq_true g
      have pi : preB (grB x y u v s j) i = true := by
        cases i with
        | zero => exact gb
        | succ i => show (preB (grB x y u v s j) i && grB x y u v s j (i + 1)) = true; rw [gb, hp i rfl]; rfl
      refine ih (i + 1) _ (by omega) (fun k hk => by rw [show k = i by omega]; exact pi) (fun I' f' lo up => h I' ((Fz.z (S := fun a _ => a = c) (a := c) (j := i) Fz.rfl' rfl).trans f') (fun k hk => by rw [lo k (by omega), zI_d (by omega)]) (fun k h1 h2 => ?_))
      by_cases e : k = i
      · subst e
        rw [lo k (by omega), zI_s, if_pos pi]
      · rw [up k (by omega) h2, zI_d (by omega)]
theorem c10_cr3 (ho : o < K.1) (hc : (K.2.1 o).1 = 10) (hr : K.2.2 o 0 = some c) (hcl : c < K.1) (hs : K.2.1 c = (20, 24)) (h : ∀ I', Fz (fun a _ => a = c) I I' → (∀ k, k < 24 → ∀ q, q < 32 → tb (I' c k) q = (tb (I c k) q ^^ crB x y u v s k q)) → Q none I' L) :
    ∀ w j I1, j + w = 24 → Fz (fun a _ => a = c) I I1 → (∀ k, k < 24 → ∀ q, q < 32 → tb (I1 c k) q = (tb (I c k) q ^^ (decide (q < j) && crB x y u v s k q))) → Z n0 xX10_cross d 0 0 3 [(0, .ref (n0 + o)), (1, .int x), (2, .int y), (3, .int u), (4, .int v), (5, .int s), (6, .int (nI j))] [] K I1 L (z_q0 K Q) := by
  intro w
  induction w with
  | zero =>
    intro j I1 hj f1 h1
    have : j = 24 := by omega
    subst this
    refine wp_X10_cross_3 (iq (by decide) (h I1 f1 (fun k hk q hq => ?_)))
    rw [h1 k hk q hq]
    unfold crB
    cases decide (q < 24) <;> rfl
  | succ w ih =>
    intro j I1 hj f1 h1
    have nxt : ∀ {b : Bool} {k q : Nat}, q < 32 → b = crB x y u v s k j → (decide (q < j) && crB x y u v s k q ^^ (b && decide (q = j))) = (decide (q < j + 1) && crB x y u v s k q) := by
      intro b k q hq hb
      subst hb
      by_cases e : q = j
      · subst e
        rw [decide_eq_false (Nat.lt_irrefl _), decide_eq_true (show q < q + 1 by omega), decide_eq_true (rfl : q = q)]
        cases crB x y u v s k q <;> rfl
      · rw [decide_eq_false e, Bool.and_false, show decide (q < j + 1) = decide (q < j) from decide_eq_decide.mpr (by omega)]
        cases (decide (q < j) && crB x y u v s k q) <;> rfl
    refine wp_X10_cross_3 (ip (nI_lt (b := 24) (by omega) (by omega)) ?_)
    by_cases g : ((if (((2 * nI j) + 1) * s) < y then 1 else 0 : Int32) = (if (((2 * nI j) + 1) * s) < v then 1 else 0))
    · refine ip g ?_
      rw [← nI_succ]
      have gx : crX y v s j = false := decide_eq_false (fun z => z g)
      refine ih (j + 1) I1 (by omega) f1 (fun k hk q hq => ?_)
      rw [h1 k hk q hq, ← nxt (b := false) hq (by unfold crB; rw [gx]; simp), Bool.false_and, Bool.xor_false]
    · refine iq g (c10_cr65 (n0 := n0) (d := d) ho hc hr hcl hs (by omega) 24 0 I1 (by omega) (fun k hk => by omega) (fun I2 f2 lo up => ih (j + 1) I2 (by omega) (f1.trans f2) (fun k hk q hq => ?_)))
      have gx : crX y v s j = true := decide_eq_true g
      have e : crB x y u v s k j = preB (grB x y u v s j) k := by unfold crB; rw [gx, decide_eq_true (show j < 24 by omega)]; rfl
      rw [up k (by omega) hk, ← nxt (k := k) hq e.symm]
      by_cases gp : preB (grB x y u v s j) k = true
      · rw [if_pos gp, tb_xor, h1 k hk q hq, tb_one (by omega) hq, gp, Bool.true_and, Bool.xor_assoc]
      · rw [if_neg gp, h1 k hk q hq, show preB (grB x y u v s j) k = false by simpa using gp, Bool.false_and, Bool.xor_false]
theorem c10_cross (ho : o < K.1) (hc : (K.2.1 o).1 = 10) (hr : K.2.2 o 0 = some c) (hcl : c < K.1) (hs : K.2.1 c = (20, 24)) (h : ∀ I', Fz (fun a _ => a = c) I I' → (∀ k, k < 24 → ∀ q, q < 32 → tb (I' c k) q = (tb (I c k) q ^^ crB x y u v s k q)) → Q none I' L) :
    RM0 n0 xX10_cross d [.ref (n0 + o), .int x, .int y, .int u, .int v, .int s] K I L Q :=
  wp_X10_cross (c10_cr3 ho hc hr hcl hs h 24 0 I (by omega) Fz.rfl' (fun k hk q hq => by rw [decide_eq_false (by omega), Bool.false_and, Bool.xor_false]))
end CRS
