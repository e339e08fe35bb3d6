/-! the rules: the log of the reference, the chains of the component -/
theorem q_ni {a b : Nat} (ha : a < 2 ^ 31) (hb : b < 2 ^ 31) : (nI a = nI b) ↔ a = b := ⟨fun z => by have := q_eq.mp z; rw [q_nI ha, q_nI hb] at this; omega, fun z => by rw [z]⟩
def lastR (rp rk : Nat → Nat) (p k : Nat) : Nat → Option Nat
  | 0 => none
  | n + 1 => if rp n = p ∧ rk n = k then some n else lastR rp rk p k n
def selC (rf : Nat → Int32) (n : Nat) : Option Nat → Option Nat
  | none => some n
  | some b => if rf n < rf b then some b else some n
def selR (rp rk : Nat → Nat) (rf : Nat → Int32) (p k : Nat) (dy : Int32) : Nat → Option Nat
  | 0 => none
  | n + 1 => if rp n = p ∧ rk n = k ∧ ¬ dy < rf n then selC rf n (selR rp rk rf p k dy n) else selR rp rk rf p k dy n
def cmbR (rf : Nat → Int32) (s : Option Nat) : Option Nat → Option Nat
  | none => s
  | some q => match s with
    | none => some q
    | some b => if rf q < rf b then some b else some q
def cntR (rp rk : Nat → Nat) (rf : Nat → Int32) (p k : Nat) (f : Int32) : Nat → Nat
  | 0 => 0
  | n + 1 => cntR rp rk rf p k f n + if rp n = p ∧ rk n = k ∧ rf n = f then 1 else 0
def oI : Option Nat → Int32
  | none => -1
  | some b => nI b
def omr (f : Nat → Nat) : Option Nat → Option Nat
  | none => none
  | some a => some (f a)
/-- the rules: nr of them; rule r is of piece rp r and point rk r, the object rid r -/
def RlK (K : z_K) (I : z_I) (nr np : Nat) (pid rid rp rk : Nat → Nat) : Prop := nr ≤ 120 ∧ I 0 9 = nI nr ∧ I 59 22 = nI nr ∧ (∀ r, r < nr → rp r < np ∧ rk r < 10 ∧ I 79 r = nI (rp r) ∧ I 80 r = nI (rk r) ∧ I (rid r) 0 = I 81 r ∧ 152 ≤ rid r ∧ rid r < K.1 ∧ (K.2.1 (rid r)).1 = 6 ∧ K.2.2 (rid r) 3 = omr rid (lastR rp rk (rp r) (rk r) r)) ∧ ∀ p k, p < np → k < 10 → K.2.2 (pid p + 1) k = omr rid (lastR rp rk p k nr)
section RUL
variable {n0 d : Nat} {K : z_K} {I : z_I} {L : z_L} {Q : z_q} {np nr : Nat} {pid pts rid rp rk : Nat → Nat} {rf : Nat → Int32} {p k : Nat} {dy : Int32} {P : z_I → z_L → Prop}
theorem selC_or (rf : Nat → Int32) (n : Nat) (s : Option Nat) : selC rf n s = some n ∨ (selC rf n s = s ∧ ∃ b, s = some b) := by
  cases s with
  | none => exact Or.inl rfl
  | some b =>
    show (if rf n < rf b then some b else some n) = _ ∨ (if rf n < rf b then some b else some n) = _ ∧ _
    by_cases h : rf n < rf b
    · rw [if_pos h]; exact Or.inr ⟨rfl, b, rfl⟩
    · rw [if_neg h]; exact Or.inl rfl
theorem selR_s : ∀ {n b : Nat}, selR rp rk rf p k dy n = some b → b < n ∧ rp b = p ∧ rk b = k ∧ ¬ dy < rf b := by
  intro n
  induction n with
  | zero => intro b h; cases h
  | succ n ih =>
    intro b h
    have h' : (if rp n = p ∧ rk n = k ∧ ¬ dy < rf n then selC rf n (selR rp rk rf p k dy n) else selR rp rk rf p k dy n) = some b := h
    by_cases g : rp n = p ∧ rk n = k ∧ ¬ dy < rf n
    · rw [if_pos g] at h'
      rcases selC_or rf n (selR rp rk rf p k dy n) with e | ⟨e, c, ec⟩
      · rw [e] at h'
        cases h'
        exact ⟨by omega, g⟩
      · rw [e] at h'
        obtain ⟨h1, h2⟩ := ih h'
        exact ⟨by omega, h2⟩
    · rw [if_neg g] at h'
      obtain ⟨h1, h2⟩ := ih h'
      exact ⟨by omega, h2⟩
theorem cmb_step {n : Nat} {a : Option Nat} (s : Option Nat) : cmbR rf s (match a with | none => some n | some q => if rf q < rf n then some n else some q) = cmbR rf (selC rf n s) a := by
  cases a with
  | none =>
    cases s with
    | none => rfl
    | some b => rfl
  | some q =>
    cases s with
    | none =>
      show cmbR rf none (if rf q < rf n then some n else some q) = (if rf q < rf n then some n else some q)
      by_cases h : rf q < rf n
      · rw [if_pos h]; rfl
      · rw [if_neg h]; rfl
    | some b =>
      show cmbR rf (some b) (if rf q < rf n then some n else some q) = cmbR rf (if rf n < rf b then some b else some n) (some q)
      by_cases h : rf q < rf n
      · rw [if_pos h]
        by_cases h2 : rf n < rf b
        · rw [if_pos h2]
          show (if rf n < rf b then some b else some n) = (if rf q < rf b then some b else some q)
          rw [if_pos h2, if_pos (q_lt.mpr (by have := q_lt.mp h; have := q_lt.mp h2; omega))]
        · rw [if_neg h2]
          show (if rf n < rf b then some b else some n) = (if rf q < rf n then some n else some q)
          rw [if_neg h2, if_pos h]
      · rw [if_neg h]
        by_cases h2 : rf n < rf b
        · rw [if_pos h2]
        · rw [if_neg h2]
          show (if rf q < rf b then some b else some q) = (if rf q < rf n then some n else some q)
          rw [if_neg h, if_neg (fun z => by have := q_lt.mp z; have h' := mt q_lt.mpr h; have h2' := mt q_lt.mpr h2; omega)]
theorem c5_ruleOn_l (hR : RlK K I nr np pid rid rp rk) : ∀ n, n ≤ nr → ∀ acc : Option Nat, (∀ q, acc = some q → q < nr) → Q (some (zr n0 (omr rid (cmbR (I 81) (selR rp rk (I 81) p k dy n) acc)))) I L → Z n0 xX5_ruleOn d 0 0 10 [(2, .int dy), (3, zr n0 (omr rid acc)), (4, zr n0 (omr rid (lastR rp rk p k n)))] [] K I L (z_q0 K Q) := by
  intro n
  induction n with
  | zero =>
    intro _ acc _ h
    refine wp_X5_ruleOn_10 (osn ?_)
    cases acc with
    | none => exact h
    | some q => exact h
  | succ n ih =>
    intro hn acc ha h
    obtain ⟨r1, r2, r3, r4, r5, r6, r7, r8, r9⟩ := hR.2.2.2.1 n (by omega)
    by_cases g : rp n = p ∧ rk n = k
    · have hl : lastR rp rk p k (n + 1) = some n := if_pos g
      rw [hl]
      refine wp_X5_ruleOn_10 (oss ⟨r7, r8, ?_⟩)
      rw [g.1, g.2] at r9
      have nxt : ∀ acc' : Option Nat, (∀ q, acc' = some q → q < nr) → cmbR (I 81) (selR rp rk (I 81) p k dy n) acc' = cmbR (I 81) (selR rp rk (I 81) p k dy (n + 1)) acc → ∀ o, K.2.2 (rid n) 3 = o → Z n0 xX5_ruleOn d 0 0 10 [(2, .int dy), (3, zr n0 (omr rid acc')), (4, zr n0 o)] [] K I L (z_q0 K Q) := by
        intro acc' ha' e o ho
        rw [← ho, r9]
        exact ih (by omega) acc' ha' (by rw [e]; exact h)
      have hsel : ¬ dy < I 81 n → selR rp rk (I 81) p k dy (n + 1) = selC (I 81) n (selR rp rk (I 81) p k dy n) := fun hd => if_pos ⟨g.1, g.2, hd⟩
      rw [r5]
      by_cases hd : dy < I 81 n
      · have : selR rp rk (I 81) p k dy (n + 1) = selR rp rk (I 81) p k dy n := if_neg (fun z => z.2.2 hd)
        exact ip hd (nxt acc ha (by rw [this]))
      · refine iq hd ?_
        have st := cmb_step (rf := I 81) (n := n) (a := acc) (selR rp rk (I 81) p k dy n)
        rw [← hsel hd] at st
        cases acc with
        | none => exact osn (nxt (some n) (fun q hq => by cases hq; omega) st)
        | some q =>
          obtain ⟨_, _, _, _, s5, _, s7, s8, _⟩ := hR.2.2.2.1 q (ha q rfl)
          refine oss ⟨s7, s8, ?_⟩
          rw [s5]
          by_cases h3 : I 81 q < I 81 n
          · refine ip h3 (nxt (some n) (fun q hq => by cases hq; omega) ?_)
            rw [← st]
            show _ = cmbR _ _ (if I 81 q < I 81 n then some n else some q)
            rw [if_pos h3]
          · refine iq h3 (nxt (some q) ha ?_)
            rw [← st]
            show _ = cmbR _ _ (if I 81 q < I 81 n then some n else some q)
            rw [if_neg h3]
    · have hl : lastR rp rk p k (n + 1) = lastR rp rk p k n := if_neg g
      have hs : selR rp rk (I 81) p k dy (n + 1) = selR rp rk (I 81) p k dy n := if_neg (fun z => g ⟨z.1, z.2.1⟩)
      rw [hl]
      rw [hs] at h
      exact ih (by omega) acc ha h
theorem c5_ruleOn (hP : PcK K np pid) (hR : RlK K I nr np pid rid rp rk) (hp : p < np) (hk : k < 10) (h : Q (some (zr n0 (omr rid (selR rp rk (I 81) p k dy nr)))) I L) : RM0 n0 xX5_ruleOn d [.ref (n0 + pid p), .int (nI k), .int dy] K I L Q := by
  have hlt := hP.lt hp
  refine wp_X5_ruleOn ⟨by omega, hP.cls hp, _, (hP.r hp).1, 10, by omega, (hP.s hp).1, q_inn hk (by omega), fun o ho => ?_⟩
  rw [q_cl (by omega), hR.2.2.2.2 p k hp hk] at ho
  rw [← ho]
  exact c5_ruleOn_l (p := p) (k := k) (dy := dy) hR nr (Nat.le_refl _) none (fun q hq => nomatch hq) h
theorem c13_ruleOn_l (hM : MLay K) (hR : RlK K I nr np pid rid rp rk) (hnp : np ≤ 16) (hp : p < np) (hk : k < 10) (h : Q (some (.int (oI (selR rp rk (I 81) p k dy nr)))) I L) : ∀ w j, j + w = nr → Z n0 xX13_ruleOn d 0 0 6 [(0, .ref (n0 + 59)), (1, .int (nI p)), (2, .int (nI k)), (3, .int dy), (4, .int (oI (selR rp rk (I 81) p k dy j))), (5, .int (nI j))] [] K I L (z_q0 K Q) := by
  have h120 := hR.1
  intro w
  induction w with
  | zero =>
    intro j hj
    refine wp_X13_ruleOn_6 hM ?_
    rw [hR.2.2.1]
    have : j = nr := by omega
    subst this
    exact iq (fun z => by have := q_lt.mp z; omega) h
  | succ w ih =>
    intro j hj
    obtain ⟨r1, r2, r3, r4, r5, r6, r7, r8, r9⟩ := hR.2.2.2.1 j (by omega)
    refine wp_X13_ruleOn_6 hM ?_
    rw [hR.2.2.1]
    have nx := ih (j + 1) (by omega)
    refine ip (nI_lt (by omega) (by omega)) ⟨q_inn (by omega) (by omega), ?_⟩
    rw [q_cl (by omega), ← nI_succ]
    have hin : ((if ((I 79 j) : Int32) = nI p then if ((I 80 j) : Int32) = nI k then if dy < ((I 81 j) : Int32) then 0 else 1 else 0 else 0) : Int32) = bI (rp j = p ∧ rk j = k ∧ ¬ dy < I 81 j) := by
      rw [r3, r4]
      unfold bI
      by_cases a : rp j = p
      · rw [if_pos (by rw [a])]
        by_cases b : rk j = k
        · rw [if_pos (by rw [b])]
          by_cases c : dy < I 81 j
          · rw [if_pos c, if_neg (fun z => z.2.2 c)]
          · rw [if_neg c, if_pos ⟨a, b, c⟩]
        · rw [if_neg (fun z => b ((q_ni (by omega) (by omega)).mp z)), if_neg (fun z => b z.2.1)]
      · rw [if_neg (fun z => a ((q_ni (by omega) (by omega)).mp z)), if_neg (fun z => a z.1)]
    rw [hin]
    have cur : (oI (selR rp rk (I 81) p k dy j) < 0 ∧ selR rp rk (I 81) p k dy j = none) ∨ ∃ b, selR rp rk (I 81) p k dy j = some b ∧ b < j ∧ ¬ oI (selR rp rk (I 81) p k dy j) < 0 := by
      cases e : selR rp rk (I 81) p k dy j with
      | none => exact Or.inl ⟨by show (-1 : Int32) < 0; decide, rfl⟩
      | some b =>
        have := (selR_s e).1
        exact Or.inr ⟨b, rfl, this, nI_pos (by omega)⟩
    by_cases g : rp j = p ∧ rk j = k ∧ ¬ dy < I 81 j
    · have hs : selR rp rk (I 81) p k dy (j + 1) = selC (I 81) j (selR rp rk (I 81) p k dy j) := if_pos g
      rw [hs] at nx
      rw [bI_t g]
      rcases cur with ⟨c1, c2⟩ | ⟨b, c1, c2, c3⟩
      · refine ⟨fun _ z => absurd c1 z, ?_⟩
        rw [if_neg (by decide), if_pos c1]
        rw [c2] at nx
        exact nx
      · rw [c1] at nx c3 ⊢
        refine ⟨fun _ _ => q_inn (by omega) (by omega), ?_⟩
        rw [if_neg (by decide), if_neg c3]
        show Z n0 xX13_ruleOn d 0 0 6 [(0, .ref (n0 + 59)), (1, .int (nI p)), (2, .int (nI k)), (3, .int dy), (4, .int (if I 81 j < I 81 (nI b).toNatClampNeg then nI b else nI j)), (5, .int (nI (j + 1)))] [] K I L (z_q0 K Q)
        rw [q_cl (by omega)]
        have e : oI (selC (I 81) j (some b)) = (if I 81 j < I 81 b then nI b else nI j) := by
          show oI (if I 81 j < I 81 b then some b else some j) = _
          by_cases q : I 81 j < I 81 b
          · rw [if_pos q, if_pos q]; rfl
          · rw [if_neg q, if_neg q]; rfl
        rw [← e]
        exact nx
    · have hs : selR rp rk (I 81) p k dy (j + 1) = selR rp rk (I 81) p k dy j := if_neg g
      rw [hs] at nx
      rw [bI_f g]
      refine ⟨fun z => absurd rfl z, ?_⟩
      rw [if_pos rfl]
      exact nx
theorem c13_ruleOn (hM : MLay K) (hR : RlK K I nr np pid rid rp rk) (hnp : np ≤ 16) (hp : p < np) (hk : k < 10) (h : Q (some (.int (oI (selR rp rk (I 81) p k dy nr)))) I L) : RM0 n0 xX13_ruleOn d [.ref (n0 + 59), .int (nI p), .int (nI k), .int dy] K I L Q :=
  wp_X13_ruleOn hM (c13_ruleOn_l hM hR hnp hp hk h nr 0 (by omega))
end RUL
