/-! laying: the cloth as bits (column, row), the first place, all orders -/
abbrev lyE : Type := (Nat → Nat) × (Nat → Nat) × (Nat → Nat → Nat → Nat → Bool) × Nat × Nat × Nat
def shf (b : Nat → Nat → Bool) (r k q : Nat) : Bool := decide (r ≤ q) && b k (q - r)
abbrev frP (T b : Nat → Nat → Bool) (w c r : Nat) : Prop := ∀ k, k < w → ∀ q, q < 32 → (shf b r k q && T (c + k) q) = false
abbrev okP (E : lyE) (T : Nat → Nat → Bool) (i c r t : Nat) : Prop := c + E.1 i ≤ 96 ∧ r + E.2.1 i ≤ E.2.2.2.1 ∧ t ≤ 1 ∧ (t = 1 → E.2.2.2.2.1 ≠ 1) ∧ c % (if 1 < E.2.2.2.2.2 then E.2.2.2.2.2 else 1) = 0 ∧ frP T (E.2.2.1 i t) (E.1 i) c r
def putT (T b : Nat → Nat → Bool) (w c r : Nat) : Nat → Nat → Bool := fun x q => T x q ^^ (decide (c ≤ x ∧ x < c + w) && shf b r (x - c) q)
theorem putT_2 {T b : Nat → Nat → Bool} {w c r : Nat} : putT (putT T b w c r) b w c r = T := by
  funext x q
  unfold putT
  cases T x q <;> cases (decide (c ≤ x ∧ x < c + w) && shf b r (x - c) q) <;> rfl
theorem putT_or {T b : Nat → Nat → Bool} {w c r x q : Nat} (h : frP T b w c r) (hq : q < 32) : putT T b w c r x q = (T x q || (decide (c ≤ x ∧ x < c + w) && shf b r (x - c) q)) := by
  unfold putT
  by_cases hx : c ≤ x ∧ x < c + w
  · have := h (x - c) (by omega) q hq
    rw [show c + (x - c) = x by omega] at this
    rw [decide_eq_true hx]
    revert this
    cases T x q <;> cases shf b r (x - c) q <;> intro h <;> first | rfl | exact absurd h (by decide)
  · rw [decide_eq_false hx]
    cases T x q <;> rfl
/-- the first of the numbers from n on -/
def frs (p : Nat → Bool) : Nat → Nat → Option Nat
  | 0, _ => none
  | f + 1, n => if p n = true then some n else frs p f (n + 1)
theorem frs_s {p : Nat → Bool} {n : Nat} (h : p n = true) : ∀ f m, m ≤ n → n < m + f → (∀ q, m ≤ q → q < n → p q = false) → frs p f m = some n := by
  intro f
  induction f with
  | zero => intro m h1 h2; omega
  | succ f ih =>
    intro m h1 h2 h3
    unfold frs
    by_cases e : m = n
    · subst e; rw [if_pos h]
    · rw [if_neg (by rw [h3 m (Nat.le_refl _) (by omega)]; decide)]
      exact ih (m + 1) (by omega) (by omega) (fun q a b => h3 q (by omega) b)
theorem frs_n {p : Nat → Bool} : ∀ f m, (∀ q, m ≤ q → q < m + f → p q = false) → frs p f m = none := by
  intro f
  induction f with
  | zero => intro m _; rfl
  | succ f ih =>
    intro m h
    unfold frs
    rw [if_neg (by rw [h m (Nat.le_refl _) (by omega)]; decide)]
    exact ih (m + 1) (fun q a b => h q (by omega) (by omega))
theorem frs_t {p : Nat → Bool} {n : Nat} : ∀ f m, frs p f m = some n → p n = true := by
  intro f
  induction f with
  | zero => intro m h; cases h
  | succ f ih =>
    intro m h
    unfold frs at h
    by_cases c : p m = true
    · rw [if_pos c] at h; cases h; exact c
    · rw [if_neg c] at h; exact ih _ h
/-- the first place, as one number -/
def plN (E : lyE) (T : Nat → Nat → Bool) (i : Nat) : Option Nat := frs (fun n => decide (okP E T i (n / 48) (n / 2 % 24) (n % 2))) 4608 0
def fld {α : Type} (g : Nat → α → α) : Nat → α → α
  | 0, b => b
  | k + 1, b => g k (fld g k b)
def upF {α : Type} (f : Nat → α) (i : Nat) (v : α) : Nat → α := fun j => if j = i then v else f j
theorem upF_s {α : Type} {f : Nat → α} {i : Nat} {v : α} : upF f i v i = v := if_pos rfl
theorem upF_n {α : Type} {f : Nat → α} {i j : Nat} {v : α} (h : j ≠ i) : upF f i v j = f j := if_neg h
/-- the best so far: how long, and the places -/
abbrev lyB : Type := Nat × (Nat → Nat)
def lyF (reach : Nat) (pl : Nat → Nat) (b : lyB) : lyB := if reach < b.1 then (reach, pl) else b
def mxN (a b : Nat) : Nat := if a < b then b else a
def dfs (E : lyE) (N : Nat) : Nat → (Nat → Bool) → (Nat → Nat → Bool) → Nat → (Nat → Nat) → lyB → lyB
  | 0, _, _, reach, pl, b => lyF reach pl b
  | m + 1, U, T, reach, pl, b => fld (fun i b => if U i = true then b else match plN E T i with
      | none => b
      | some n => dfs E N m (upF U i true) (putT T (E.2.2.1 i (n % 2)) (E.1 i) (n / 48) (n / 2 % 24)) (mxN reach (n / 48 + E.1 i)) (upF pl i n) b) N b
theorem dfs_pr {E : lyE} {N : Nat} : ∀ m U T reach pl (b : lyB), b.1 ≤ reach → dfs E N m U T reach pl b = b := by
  intro m
  induction m with
  | zero => intro U T reach pl b h; show lyF reach pl b = b; unfold lyF; rw [if_neg (by omega)]
  | succ m ih =>
    intro U T reach pl b h
    show fld _ N b = b
    have : ∀ k, fld (fun i b => if U i = true then b else match plN E T i with
      | none => b
      | some n => dfs E N m (upF U i true) (putT T (E.2.2.1 i (n % 2)) (E.1 i) (n / 48) (n / 2 % 24)) (mxN reach (n / 48 + E.1 i)) (upF pl i n) b) k b = b := by
      intro k
      induction k with
      | zero => rfl
      | succ k ihk =>
        show (if U k = true then fld _ k b else _) = b
        rw [ihk]
        by_cases c : U k = true
        · rw [if_pos c]
        · rw [if_neg c]
          cases plN E T k with
          | none => rfl
          | some n => exact ih _ _ _ _ _ (by unfold mxN; split <;> omega)
    exact this N
/-- one order, one behind the other -/
abbrev lyS : Type := (Nat → Nat → Bool) × Nat × (Nat → Nat)
def rn1 (E : lyE) (s : lyS) (i : Nat) : Option lyS := match plN E s.1 i with
  | none => none
  | some n => some (putT s.1 (E.2.2.1 i (n % 2)) (E.1 i) (n / 48) (n / 2 % 24), mxN s.2.1 (n / 48 + E.1 i), upF s.2.2 i n)
def rnL (E : lyE) : List Nat → lyS → Option lyS
  | [], s => some s
  | i :: l, s => match rn1 E s i with
    | none => none
    | some s' => rnL E l s'
def lyO (o : Option lyS) (b : lyB) : lyB := match o with
  | none => b
  | some s => lyF s.2.1 s.2.2 b
def ords (N : Nat) : Nat → (Nat → Bool) → List (List Nat)
  | 0, _ => [[]]
  | m + 1, U => (List.range N).flatMap (fun i => if U i = true then [] else (ords N m (upF U i true)).map (fun l => i :: l))
theorem rn1_s {E : lyE} {s : lyS} {i n : Nat} (e : plN E s.1 i = some n) : rn1 E s i = some (putT s.1 (E.2.2.1 i (n % 2)) (E.1 i) (n / 48) (n / 2 % 24), mxN s.2.1 (n / 48 + E.1 i), upF s.2.2 i n) := by unfold rn1; rw [e]
theorem rn1_n {E : lyE} {s : lyS} {i : Nat} (e : plN E s.1 i = none) : rn1 E s i = none := by unfold rn1; rw [e]
theorem rnL_s {E : lyE} {s s' : lyS} {i : Nat} {l : List Nat} (e : rn1 E s i = some s') : rnL E (i :: l) s = rnL E l s' := by
  show (match rn1 E s i with | none => none | some s' => rnL E l s') = _
  rw [e]
theorem rnL_n {E : lyE} {s : lyS} {i : Nat} {l : List Nat} (e : rn1 E s i = none) : rnL E (i :: l) s = none := by
  show (match rn1 E s i with | none => none | some s' => rnL E l s') = _
  rw [e]
theorem fld_l {α : Type} {g : Nat → α → α} {b : α} : ∀ k, fld g k b = (List.range k).foldl (fun b i => g i b) b := by
  intro k
  induction k with
  | zero => rfl
  | succ k ih => rw [List.range_succ, List.foldl_append, ← ih]; rfl
theorem foldl_n {α : Type} (l : List α) (b : lyB) : l.foldl (fun b _ => b) b = b := by
  induction l with
  | nil => rfl
  | cons a l ih => exact ih
theorem dfs_l {E : lyE} {N : Nat} : ∀ m U T reach pl (b : lyB), dfs E N m U T reach pl b = (ords N m U).foldl (fun b l => lyO (rnL E l (T, reach, pl)) b) b := by
  intro m
  induction m with
  | zero => intro U T reach pl b; rfl
  | succ m ih =>
    intro U T reach pl b
    show fld _ N b = ((List.range N).flatMap _).foldl _ b
    rw [fld_l, List.foldl_flatMap]
    congr 1
    funext b i
    by_cases c : U i = true
    · rw [if_pos c, if_pos c]; rfl
    · rw [if_neg c, if_neg c, List.foldl_map]
      cases e : plN E T i with
      | none =>
        have : (fun (b : lyB) (l : List Nat) => lyO (rnL E (i :: l) (T, reach, pl)) b) = fun b _ => b := by
          funext b l
          rw [rnL_n (rn1_n e)]
          rfl
        rw [this, foldl_n]
      | some n =>
        show dfs E N m _ _ _ _ b = _
        rw [ih]
        congr 1
        funext b l
        rw [rnL_s (rn1_s e)]
/-- the reference's numbering of the orders -/
def skF (U : Nat → Bool) : Nat → Nat → Nat → Nat
  | 0, k, _ => k
  | f + 1, k, s => if U k = true then skF U f (k + 1) s else if 0 < s then skF U f (k + 1) (s - 1) else k
def foF (N : Nat) : Nat → Nat → Nat → Nat → (Nat → Bool) → List Nat
  | 0, _, _, _, _ => []
  | m + 1, i, left, unit, U => skF U 8 0 (left / unit) :: foF N m (i + 1) (left % unit) (if 0 < N - i - 2 then unit / (N - i - 1) else 1) (upF U (skF U 8 0 (left / unit)) true)
def wyM (N : Nat) : Nat := if N = 4 then 24 else if N = 3 then 6 else if N = 2 then 2 else 1
def unM (N : Nat) : Nat := if N = 4 then 6 else if N = 3 then 2 else 1
theorem fo_ords : ∀ N, N < 5 → 0 < N → (List.range (wyM N)).map (fun way => foF N N 0 way (unM N) (fun _ => false)) = ords N N (fun _ => false) := by decide
/-- how far the cloth is taken -/
def rch (T : Nat → Nat → Bool) (reach : Nat) : Prop := (∀ x q, q < 32 → T x q = true → x < reach) ∧ (reach = 0 ∨ ∃ q, q < 32 ∧ T (reach - 1) q = true)
theorem rch_put {T b : Nat → Nat → Bool} {w c r h reach : Nat} (hw : 1 ≤ w) (hb : ∃ q, q < h ∧ b (w - 1) q = true) (hr : r + h ≤ 32) (hf : frP T b w c r) (hR : rch T reach) : rch (putT T b w c r) (mxN reach (c + w)) := by
  obtain ⟨h1, h2⟩ := hR
  constructor
  · intro x q hq hx
    rw [putT_or hf hq] at hx
    rw [Bool.or_eq_true, Bool.and_eq_true, decide_eq_true_eq] at hx
    unfold mxN
    rcases hx with hx | ⟨hx, _⟩
    · have := h1 x q hq hx
      split <;> omega
    · split <;> omega
  · refine Or.inr ?_
    unfold mxN
    split
    · obtain ⟨q, hq, e⟩ := hb
      refine ⟨r + q, by omega, ?_⟩
      rw [putT_or hf (by omega), Bool.or_eq_true]
      refine Or.inr ?_
      unfold shf
      rw [decide_eq_true (show c ≤ c + w - 1 ∧ c + w - 1 < c + w by omega), decide_eq_true (show r ≤ r + q by omega), show c + w - 1 - c = w - 1 by omega, show r + q - r = q by omega]
      exact e
    · rcases h2 with h2 | ⟨q, hq, e⟩
      · omega
      · exact ⟨q, hq, by rw [putT_or hf hq, e]; rfl⟩
theorem rch_0 : rch (fun _ _ => false) 0 := ⟨fun _ _ _ h => by simp at h, Or.inl rfl⟩
theorem rch_u {T : Nat → Nat → Bool} {a b : Nat} (h1 : rch T a) (h2 : rch T b) : a = b := by
  have : ∀ {a b : Nat}, rch T a → rch T b → a ≤ b := by
    intro a b h1 h2
    rcases h1.2 with h | ⟨q, hq, e⟩
    · omega
    · have := h2.1 _ q hq e
      omega
  exact Nat.le_antisymm (this h1 h2) (this h2 h1)
theorem shB_in {f : Nat → Nat → Bool} (h : 0 < (fcA f 24).1) {k q : Nat} (e : shB f k q = true) : k < shW f ∧ q < shH f := by
  obtain ⟨G1, _, _⟩ := fcG_A (f := f) 24 (Nat.le_refl _)
  unfold shB at e
  rw [Bool.and_eq_true, Bool.and_eq_true, decide_eq_true_eq, decide_eq_true_eq] at e
  have := G1 _ _ ⟨e.1, e.2.1⟩ e.2.2
  unfold shW shH
  omega
theorem shB_last {f : Nat → Nat → Bool} (h : 0 < (fcA f 24).1) : ∃ q, q < shH f ∧ shB f (shW f - 1) q = true := by
  obtain ⟨G1, _, G3⟩ := fcG_A (f := f) 24 (Nat.le_refl _)
  obtain ⟨_, ⟨q, v, t⟩, _, _⟩ := G3 h
  have b := sh_b h
  have g := G1 _ q v t
  have v2 := v.2
  refine ⟨q - (fcA f 24).2.2.1, by omega, ?_⟩
  unfold shB
  rw [show shW f - 1 + (fcA f 24).2.1 = (fcA f 24).2.2.2.1 by omega, show q - (fcA f 24).2.2.1 + (fcA f 24).2.2.1 = q by omega, decide_eq_true (by omega), decide_eq_true (by omega), t]
  rfl
theorem shB_first {f : Nat → Nat → Bool} (h : 0 < (fcA f 24).1) : ∃ q, q < shH f ∧ shB f 0 q = true := by
  obtain ⟨G1, _, G3⟩ := fcG_A (f := f) 24 (Nat.le_refl _)
  obtain ⟨⟨q, v, t⟩, _, _, _⟩ := G3 h
  have b := sh_b h
  have g := G1 _ q v t
  have v1 := v.1
  have v2 := v.2
  refine ⟨q - (fcA f 24).2.2.1, by omega, ?_⟩
  unfold shB
  rw [Nat.zero_add, show q - (fcA f 24).2.2.1 + (fcA f 24).2.2.1 = q by omega, decide_eq_true (by omega), decide_eq_true (by omega), t]
  rfl
theorem shT_in {f : Nat → Nat → Bool} {k q : Nat} (e : shT f k q = true) : k < shW f ∧ q < shH f := by
  unfold shT at e
  rw [Bool.and_eq_true, Bool.and_eq_true, decide_eq_true_eq, decide_eq_true_eq] at e
  exact ⟨e.1, e.2.1⟩
theorem shT_last {f : Nat → Nat → Bool} (h : 0 < (fcA f 24).1) : ∃ q, q < shH f ∧ shT f (shW f - 1) q = true := by
  obtain ⟨q, hq, e⟩ := shB_first h
  have b := sh_b h
  refine ⟨shH f - 1 - q, by omega, ?_⟩
  unfold shT
  rw [show shW f - 1 - (shW f - 1) = 0 by omega, show shH f - 1 - (shH f - 1 - q) = q by omega, decide_eq_true (by omega), decide_eq_true (by omega), e]
  rfl
/-- the shapes laid on the cloth -/
def lyM (F : Nat → Nat → Nat → Bool) (cw ow st : Nat) : lyE := (fun i => shW (F i), fun i => shH (F i), fun i t => if t = 0 then shB (F i) else shT (F i), cw, ow, st)
/-- shapes and cloth are well made -/
def lyG (E : lyE) (N : Nat) : Prop := N ≤ 4 ∧ (∀ i, i < N → (1 ≤ E.1 i ∧ E.1 i ≤ 24) ∧ (1 ≤ E.2.1 i ∧ E.2.1 i ≤ 24) ∧ ∀ t, ∃ q, q < E.2.1 i ∧ E.2.2.1 i t (E.1 i - 1) q = true) ∧ (1 ≤ E.2.2.2.1 ∧ E.2.2.2.1 ≤ 24) ∧ E.2.2.2.2.1 ≤ 1 ∧ E.2.2.2.2.2 ≤ 12
theorem lyM_g {F : Nat → Nat → Nat → Bool} {cw ow st N : Nat} (hN : N ≤ 4) (hF : ∀ i, i < N → 0 < (fcA (F i) 24).1) (hc : 1 ≤ cw ∧ cw ≤ 24) (ho : ow ≤ 1) (hs : st ≤ 12) : lyG (lyM F cw ow st) N := by
  refine ⟨hN, fun i hi => ?_, hc, ho, hs⟩
  have b := sh_b (hF i hi)
  refine ⟨⟨b.1, b.2.1⟩, ⟨b.2.2.1, b.2.2.2.1⟩, fun t => ?_⟩
  show ∃ q, q < shH (F i) ∧ (if t = 0 then shB (F i) else shT (F i)) (shW (F i) - 1) q = true
  by_cases c : t = 0
  · rw [if_pos c]; exact shB_last (hF i hi)
  · rw [if_neg c]; exact shT_last (hF i hi)
