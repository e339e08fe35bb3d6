/-! the least moves: Euclid, the products, and what is asked -/
def nL (n : Nat) : Int64 := Int64.ofInt n
theorem nL_i {n : Nat} (h : n < 2 ^ 63) : (nL n).toInt = (n : Int) := Int64.toInt_ofInt_of_le (by omega) (by omega)
theorem nL_of {x : Int64} (h : 0 ≤ x.toInt) : x = nL x.toInt.toNat := by
  have := Int64.toInt_lt x
  refine Int64.toInt_inj.mp ?_
  rw [nL_i (by omega)]
  omega
theorem nL_0 : nL 0 = 0 := rfl
theorem nL_z {n : Nat} (h : n < 2 ^ 63) : nL n = 0 ↔ n = 0 := by
  constructor
  · intro z
    have := nL_i h
    rw [z] at this
    have e : (0 : Int64).toInt = 0 := rfl
    omega
  · intro z; subst z; rfl
theorem nL_mod {a b : Nat} (ha : a < 2 ^ 63) (hb : b < 2 ^ 63) (h0 : 0 < b) : nL a - nL a / nL b * nL b = nL (a % b) := by
  have hd : a / b ≤ a := Nat.div_le_self a b
  have hm : a % b < b := Nat.mod_lt _ h0
  have hx : a / b * b + a % b = a := by rw [Nat.mul_comm]; exact Nat.div_add_mod a b
  have e1 : (nL a / nL b).toInt = ((a / b : Nat) : Int) := by
    rw [Int64.toInt_div, nL_i ha, nL_i hb]
    have hq : a / b < 2 ^ 63 := by omega
    show ((a / b : Nat) : Int).bmod (2 ^ 64) = _
    generalize a / b = q at hq
    exact Int.bmod_eq_of_le (by omega) (by omega)
  have e2 : (nL a / nL b * nL b).toInt = ((a / b * b : Nat) : Int) := by
    have : (nL a / nL b).toInt * (nL b).toInt = ((a / b * b : Nat) : Int) := by rw [e1, nL_i hb, Int.natCast_mul]
    rw [q_lmul (by rw [this]; omega) (by rw [this]; omega), this]
  refine Int64.toInt_inj.mp ?_
  rw [q_lsub (by rw [e2, nL_i ha]; omega) (by rw [e2, nL_i ha]; omega), e2, nL_i ha, nL_i (by omega)]
  omega
/-- Euclid, step by step -/
def euF : Nat → Nat → Nat → Nat
  | 0, d, _ => d
  | f + 1, d, r => if r = 0 then d else euF f r (d % r)
theorem gcd_st {d r : Nat} : Nat.gcd d r = Nat.gcd r (d % r) := by rw [Nat.gcd_comm d r, Nat.gcd_rec r d, Nat.gcd_comm]
theorem eu_ok : ∀ m f d r, r < 2 ^ m → 2 * m ≤ f → euF f d r = Nat.gcd d r := by
  intro m
  induction m with
  | zero =>
    intro f d r hr _
    have : r = 0 := by omega
    subst this
    cases f with
    | zero => exact (Nat.gcd_zero_right d).symm
    | succ f => show (if 0 = 0 then d else _) = _; rw [if_pos rfl, Nat.gcd_zero_right]
  | succ m ih =>
    intro f d r hr hf
    obtain ⟨f, rfl⟩ : ∃ g, f = g + 2 := ⟨f - 2, by omega⟩
    show (if r = 0 then d else euF (f + 1) r (d % r)) = _
    by_cases h : r = 0
    · rw [if_pos h, h, Nat.gcd_zero_right]
    · rw [if_neg h, gcd_st]
      show (if d % r = 0 then r else euF f (d % r) (r % (d % r))) = _
      by_cases h2 : d % r = 0
      · rw [if_pos h2, h2, Nat.gcd_zero_right]
      · rw [if_neg h2, gcd_st (d := r)]
        refine ih f (d % r) (r % (d % r)) ?_ (by omega)
        have a1 : d % r < r := Nat.mod_lt _ (by omega)
        have a2 : r % (d % r) < d % r := Nat.mod_lt _ (by omega)
        have a3 : r % (d % r) ≤ r - d % r := by
          rw [Nat.mod_eq_sub_mod (by omega)]
          exact Nat.mod_le _ _
        have : 2 ^ (m + 1) = 2 * 2 ^ m := by rw [Nat.pow_succ]; omega
        omega
/-- products of rows over Int -/
def pz (a b : Nat → Int) : Nat → Int
  | 0 => 0
  | n + 1 => pz a b n + a n * b n
theorem sq_nn (a : Int) : 0 ≤ a * a := by rw [← Int.natAbs_mul_self]; exact Int.natCast_nonneg _
theorem pz_nn {a : Nat → Int} : ∀ n, 0 ≤ pz a a n := by
  intro n
  induction n with
  | zero => exact Int.le_refl _
  | succ n ih => exact Int.add_nonneg ih (sq_nn _)
theorem pz_0 {a : Nat → Int} : ∀ n, pz a a n = 0 → ∀ j, j < n → a j = 0 := by
  intro n
  induction n with
  | zero => intro _ j hj; omega
  | succ n ih =>
    intro h j hj
    have h' : pz a a n + a n * a n = 0 := h
    have h1 := pz_nn (a := a) n
    have h2 := sq_nn (a n)
    by_cases e : j = n
    · subst e
      have : a j * a j = 0 := by omega
      exact (Int.mul_eq_zero.mp this).elim id id
    · exact ih (by omega) j (by omega)
theorem pz_q {a b : Nat → Int} {t u : Int} : ∀ n, 0 ≤ t * t * pz a a n - 2 * (t * u) * pz a b n + u * u * pz b b n := by
  intro n
  induction n with
  | zero => show 0 ≤ t * t * 0 - 2 * (t * u) * 0 + u * u * 0; simp
  | succ n ih =>
    have e : t * t * (pz a a n + a n * a n) - 2 * (t * u) * (pz a b n + a n * b n) + u * u * (pz b b n + b n * b n) = (t * t * pz a a n - 2 * (t * u) * pz a b n + u * u * pz b b n) + (t * a n - u * b n) * (t * a n - u * b n) := by grind
    show 0 ≤ t * t * (pz a a n + a n * a n) - 2 * (t * u) * (pz a b n + a n * b n) + u * u * (pz b b n + b n * b n)
    rw [e]
    exact Int.add_nonneg ih (sq_nn _)
theorem pz_z {a b : Nat → Int} : ∀ n, (∀ j, j < n → b j = 0) → pz a b n = 0 := by
  intro n
  induction n with
  | zero => intro _; rfl
  | succ n ih => intro h; show pz a b n + a n * b n = 0; rw [ih (fun j hj => h j (by omega)), h n (by omega)]; simp
theorem pz_cs {a b : Nat → Int} (n : Nat) : 0 ≤ pz a a n * pz b b n - pz a b n * pz a b n := by
  by_cases h : pz b b n = 0
  · have z := pz_0 n h
    rw [h, pz_z (a := a) n z]; simp
  · have hp : 0 < pz b b n := by have := pz_nn (a := b) n; omega
    have q := pz_q (a := a) (b := b) (t := pz b b n) (u := pz a b n) n
    have e : pz b b n * pz b b n * pz a a n - 2 * (pz b b n * pz a b n) * pz a b n + pz a b n * pz a b n * pz b b n = pz b b n * (pz a a n * pz b b n - pz a b n * pz a b n) := by grind
    rw [e] at q
    exact Int.nonneg_of_mul_nonneg_right q hp
theorem pz_b {a b : Nat → Int} : ∀ n, (∀ j, j < n → -99 ≤ a j ∧ a j ≤ 99 ∧ -99 ≤ b j ∧ b j ≤ 99) → -(9801 * n : Int) ≤ pz a b n ∧ pz a b n ≤ 9801 * n := by
  intro n
  induction n with
  | zero => intro _; exact ⟨Int.le_refl _, Int.le_refl _⟩
  | succ n ih =>
    intro h
    have := ih (fun j hj => h j (by omega))
    obtain ⟨h1, h2, h3, h4⟩ := h n (by omega)
    have m := mul_b (a := a n) (b := b n) (A := 99) (B := 99) (by omega) (by omega) (show -((99 : Nat) : Int) ≤ b n by omega) (by omega)
    show _ ≤ pz a b n + a n * b n ∧ pz a b n + a n * b n ≤ _
    omega
def bdL (x : Int64) (A : Nat) : Prop := -(A : Int) ≤ x.toInt ∧ x.toInt ≤ (A : Int)
theorem bdL_mul {x y : Int64} {A B : Nat} (hx : bdL x A) (hy : bdL y B) (h : A * B < 2 ^ 62) : bdL (x * y) (A * B) ∧ (x * y).toInt = x.toInt * y.toInt := by
  have m := mul_b hx.1 hx.2 hy.1 hy.2
  have e := q_lmul (x := x) (y := y) (by omega) (by omega)
  exact ⟨by unfold bdL; rw [e]; exact m, e⟩
theorem bdL_add {x y : Int64} {A B : Nat} (hx : bdL x A) (hy : bdL y B) (h : A + B < 2 ^ 62) : bdL (x + y) (A + B) ∧ (x + y).toInt = x.toInt + y.toInt := by
  unfold bdL at *
  have e := q_ladd (x := x) (y := y) (by omega) (by omega)
  exact ⟨by rw [e]; omega, e⟩
theorem bdL_sub {x y : Int64} {A B : Nat} (hx : bdL x A) (hy : bdL y B) (h : A + B < 2 ^ 62) : bdL (x - y) (A + B) ∧ (x - y).toInt = x.toInt - y.toInt := by
  unfold bdL at *
  have e := q_lsub (x := x) (y := y) (by omega) (by omega)
  exact ⟨by rw [e]; omega, e⟩
theorem bdL_i {x : Int32} {A : Nat} (h : -(A : Int) ≤ x.toInt ∧ x.toInt ≤ A) : bdL x.toInt64 A := by unfold bdL; rw [q_i2l]; exact h
/-- the products, as both classes make them -/
def prL (f : Nat → Int32) (k l : Nat) : Nat → Int64
  | 0 => 0
  | j + 1 => prL f k l j + (f (6 * k + j)).toInt64 * (f (6 * l + j)).toInt64
def aZ (f : Nat → Int32) (k j : Nat) : Int := (f (6 * k + j)).toInt
/-- bounds of the conditions -/
def cdB (f g : Nat → Int32) : Prop := (∀ j, j < 12 → -99 ≤ (f j).toInt ∧ (f j).toInt ≤ 99) ∧ ∀ j, j < 2 → -9999 ≤ (g j).toInt ∧ (g j).toInt ≤ 9999
section LSS
variable {f g : Nat → Int32} {k l i nc : Nat}
theorem aZ_b (h : cdB f g) (hk : k ≤ 1) (j : Nat) (hj : j < 6) : -99 ≤ aZ f k j ∧ aZ f k j ≤ 99 := h.1 (6 * k + j) (by omega)
theorem prL_i (h : cdB f g) (hk : k ≤ 1) (hl : l ≤ 1) : ∀ n, n ≤ 6 → (prL f k l n).toInt = pz (aZ f k) (aZ f l) n := by
  intro n
  induction n with
  | zero => intro _; rfl
  | succ n ih =>
    intro hn
    have e := ih (by omega)
    have b := pz_b (a := aZ f k) (b := aZ f l) n (fun j hj => ⟨(aZ_b h hk j (by omega)).1, (aZ_b h hk j (by omega)).2, (aZ_b h hl j (by omega)).1, (aZ_b h hl j (by omega)).2⟩)
    have m := q_m64 (f (6 * k + n)) (f (6 * l + n))
    have mb := mul_b (a := aZ f k n) (b := aZ f l n) (A := 99) (B := 99) (by have := aZ_b h hk n (by omega); omega) (by have := aZ_b h hk n (by omega); omega) (by have := aZ_b h hl n (by omega); omega) (by have := aZ_b h hl n (by omega); omega)
    have m' : ((f (6 * k + n)).toInt64 * (f (6 * l + n)).toInt64).toInt = aZ f k n * aZ f l n := m
    show (prL f k l n + _).toInt = pz (aZ f k) (aZ f l) n + aZ f k n * aZ f l n
    rw [q_ladd (by rw [e, m']; omega) (by rw [e, m']; omega), e, m']
theorem prL_b (h : cdB f g) (hk : k ≤ 1) (hl : l ≤ 1) : bdL (prL f k l 6) 58806 := by
  have b := pz_b (a := aZ f k) (b := aZ f l) 6 (fun j hj => ⟨(aZ_b h hk j (by omega)).1, (aZ_b h hk j (by omega)).2, (aZ_b h hl j (by omega)).1, (aZ_b h hl j (by omega)).2⟩)
  unfold bdL
  rw [prL_i h hk hl 6 (Nat.le_refl _)]
  omega
theorem prL_n (h : cdB f g) (hk : k ≤ 1) : 0 ≤ (prL f k k 6).toInt := by rw [prL_i h hk hk 6 (Nat.le_refl _)]; exact pz_nn 6
theorem l_z {x : Int64} : x = 0 ↔ x.toInt = 0 := ⟨fun z => by rw [z]; rfl, fun z => Int64.toInt_inj.mp (by rw [z]; rfl)⟩
theorem prL_p (h : cdB f g) (hk : k ≤ 1) : 0 < (prL f k k 6).toInt ↔ ¬ prL f k k 6 = 0 := by
  have := prL_n h hk
  rw [l_z]; omega
/-- a row of nothing -/
theorem prL_0 (h : cdB f g) (hk : k ≤ 1) (e : prL f k k 6 = 0) (j : Nat) (hj : j < 6) : (f (6 * k + j)).toInt = 0 := by
  have := l_z.mp e
  rw [prL_i h hk hk 6 (Nat.le_refl _)] at this
  exact pz_0 6 this j hj
/-- both products less the mixed one -/
def alL (f : Nat → Int32) : Int64 := prL f 0 0 6 * prL f 1 1 6 - prL f 0 1 6 * prL f 0 1 6
theorem alL_i (h : cdB f g) : (alL f).toInt = pz (aZ f 0) (aZ f 0) 6 * pz (aZ f 1) (aZ f 1) 6 - pz (aZ f 0) (aZ f 1) 6 * pz (aZ f 0) (aZ f 1) 6 ∧ bdL (alL f) 6916291272 := by
  have b0 := prL_b h (k := 0) (l := 0) (by omega) (by omega)
  have b1 := prL_b h (k := 1) (l := 1) (by omega) (by omega)
  have b2 := prL_b h (k := 0) (l := 1) (by omega) (by omega)
  have m1 := bdL_mul b0 b1 (by decide)
  have m2 := bdL_mul b2 b2 (by decide)
  have s := bdL_sub m1.1 m2.1 (by decide)
  refine ⟨?_, s.1⟩
  show (_ - _ : Int64).toInt = _
  rw [s.2, m1.2, m2.2, prL_i h (by omega) (by omega) 6 (Nat.le_refl _), prL_i h (by omega) (by omega) 6 (Nat.le_refl _), prL_i h (by omega) (by omega) 6 (Nat.le_refl _)]
theorem alL_n (h : cdB f g) : 0 ≤ (alL f).toInt := by rw [(alL_i h).1]; exact pz_cs 6
/-- where they don't stand alike, neither is nothing -/
theorem alL_p (h : cdB f g) (e : ¬ alL f = 0) : ¬ prL f 0 0 6 = 0 ∧ ¬ prL f 1 1 6 = 0 := by
  have cs := pz_cs (a := aZ f 0) (b := aZ f 1) 6
  have hi := (alL_i h).1
  constructor
  · intro z
    refine e (l_z.mpr ?_)
    have z' := l_z.mp z
    rw [prL_i h (by omega) (by omega) 6 (Nat.le_refl _)] at z'
    rw [z'] at cs hi
    have := sq_nn (pz (aZ f 0) (aZ f 1) 6)
    rw [hi]; omega
  · intro z
    refine e (l_z.mpr ?_)
    have z' := l_z.mp z
    rw [prL_i h (by omega) (by omega) 6 (Nat.le_refl _)] at z'
    rw [z'] at cs hi
    have := sq_nn (pz (aZ f 0) (aZ f 1) 6)
    rw [hi]; omega
def ls1 (f g : Nat → Int32) (c i : Nat) : Option (Int64 × Int64) := if prL f c c 6 = 0 then (if g c = 0 then some (0, 1) else none) else some ((f (6 * c + i)).toInt64 * (g c).toInt64, prL f c c 6)
abbrev agP (f g : Nat → Int32) : Prop := (prL f 0 0 6 = 0 → g 0 = 0) ∧ (prL f 1 1 6 = 0 → g 1 = 0) ∧ ∀ j, j < 6 → f j * g 1 = f (6 + j) * g 0
/-- the move's top and bottom, before they are made small; none: barred -/
def lsT (f g : Nat → Int32) (nc i : Nat) : Option (Int64 × Int64) := if nc = 0 then some (0, 1) else if nc = 1 then ls1 f g 0 i else if alL f = 0 then (if agP f g then ls1 f g (if prL f 0 0 6 = 0 then 1 else 0) i else none) else some ((prL f 1 1 6 * (g 0).toInt64 - prL f 0 1 6 * (g 1).toInt64) * (f i).toInt64 + (prL f 0 0 6 * (g 1).toInt64 - prL f 0 1 6 * (g 0).toInt64) * (f (6 + i)).toInt64, alL f)
theorem ls1_b {c : Nat} {tp bt : Int64} (h : cdB f g) (hc : c ≤ 1) (hi : i < 6) (e : ls1 f g c i = some (tp, bt)) : bdL tp 1099511627776 ∧ 0 < bt.toInt ∧ bt.toInt ≤ 1099511627776 := by
  unfold ls1 at e
  split at e
  · split at e
    · cases e; exact ⟨by unfold bdL; decide, by decide, by decide⟩
    · cases e
  · rename_i z
    cases e
    have b := prL_b h hc hc
    have p := (prL_p h hc).mpr z
    have m := bdL_mul (bdL_i (A := 99) (h.1 (6 * c + i) (by omega))) (bdL_i (A := 9999) (h.2 c (by omega))) (by decide)
    unfold bdL at *
    refine ⟨by omega, p, by omega⟩
theorem lsT_b {tp bt : Int64} (h : cdB f g) (hi : i < 6) (e : lsT f g nc i = some (tp, bt)) : bdL tp 1099511627776 ∧ 0 < bt.toInt ∧ bt.toInt ≤ 1099511627776 := by
  unfold lsT at e
  split at e
  · cases e; exact ⟨by unfold bdL; decide, by decide, by decide⟩
  · split at e
    · exact ls1_b h (by omega) hi e
    · split at e
      · split at e
        · refine ls1_b h ?_ hi e
          split <;> omega
        · cases e
      · rename_i z
        cases e
        have b0 := prL_b h (k := 0) (l := 0) (by omega) (by omega)
        have b1 := prL_b h (k := 1) (l := 1) (by omega) (by omega)
        have b2 := prL_b h (k := 0) (l := 1) (by omega) (by omega)
        have g0 := bdL_i (A := 9999) (h.2 0 (by omega))
        have g1 := bdL_i (A := 9999) (h.2 1 (by omega))
        have f0 := bdL_i (A := 99) (h.1 i (by omega))
        have f1 := bdL_i (A := 99) (h.1 (6 + i) (by omega))
        have s1 := bdL_sub (bdL_mul b1 g0 (by decide)).1 (bdL_mul b2 g1 (by decide)).1 (by decide)
        have s2 := bdL_sub (bdL_mul b0 g1 (by decide)).1 (bdL_mul b2 g0 (by decide)).1 (by decide)
        have s3 := bdL_add (bdL_mul s1.1 f0 (by decide)).1 (bdL_mul s2.1 f1 (by decide)).1 (by decide)
        have a := (alL_i h).2
        have n := alL_n h
        have p : (alL f).toInt ≠ 0 := fun y => z (l_z.mpr y)
        have t := s3.1
        unfold bdL at *
        refine ⟨by omega, by omega, by omega⟩
end LSS
