/-! trials: chains of the bodies against the reference's log -/
def tcn (tb : Nat → Nat) (i : Nat) : Nat → Nat
  | 0 => 0
  | k + 1 => tcn tb i k + (if tb k = i then 1 else 0)
def TrD (I : z_I) (nt nb : Nat) (bid tp tb ta te : Nat → Nat) : Prop := nt ≤ 30 ∧ I 0 6 = nI nt ∧ I 59 107 = nI nt ∧ (∀ i, i < nb → I (bid i) 9 = nI (tcn tb i nt)) ∧ ∀ k, k < nt → tp k < 100 ∧ tb k < nb ∧ ta k < 10 ∧ te k < 10 ∧ I 133 k = nI (tp k) ∧ I 134 k = nI (tb k) ∧ I 135 k = nI (ta k) ∧ I 136 k = nI (te k)
  ∧ I (bid (tb k) + 5) (tcn tb (tb k) k) = nI ((tp k * 10 + ta k) * 10 + te k) ∧ I (bid (tb k) + 6) (tcn tb (tb k) k) = I 137 k ∧ I (bid (tb k) + 7) (tcn tb (tb k) k) = I 138 k ∧ -99999 ≤ (I 137 k).toInt ∧ (I 138 k).toInt ≤ 199998
def trA (mt : Nat → Bool) : Nat → Bool
  | 0 => false
  | k + 1 => trA mt k || mt k
def trM (mt : Nat → Bool) (f : Nat → Int32) (g : Int32 → Int32 → Int32) (z : Int32) : Nat → Int32
  | 0 => z
  | k + 1 => if mt k = true then g (trM mt f g z k) (f k) else trM mt f g z k
def gmx (a v : Int32) : Int32 := if a < v then v else a
def gmn (a v : Int32) : Int32 := if v < a then v else a
def trB (tp tb ta te : Nat → Nat) (p b a e k : Nat) : Bool := decide (tp k = p ∧ tb k = b ∧ ta k = a ∧ te k = e)
section SAD
variable {n0 d : Nat} {K K' : z_K} {I I' : z_I} {L : z_L} {nb nt : Nat} {bid tp tb ta te : Nat → Nat} {Q : z_q} {p b a e : Nat}
theorem tcn_le {i : Nat} : ∀ n, tcn tb i n ≤ n
  | 0 => Nat.le_refl _
  | n + 1 => by
    have := tcn_le (i := i) n
    show tcn tb i n + (if tb n = i then 1 else 0) ≤ n + 1
    split <;> omega
theorem tcn_mono {i k : Nat} : ∀ w, tcn tb i k ≤ tcn tb i (k + w)
  | 0 => Nat.le_refl _
  | w + 1 => by
    have := tcn_mono (i := i) (k := k) w
    show tcn tb i k ≤ tcn tb i (k + w) + (if tb (k + w) = i then 1 else 0)
    split <;> omega
theorem trA_mono {mt : Nat → Bool} {k : Nat} (h : trA mt k = true) : ∀ w, trA mt (k + w) = true
  | 0 => h
  | w + 1 => by
    show (trA mt (k + w) || mt (k + w)) = true
    rw [trA_mono h w]; rfl
theorem TrD.fT (h : TrD I nt nb bid tp tb ta te) (hB : BdK K nb bid) (hI : Fz (gT K) I I') : TrD I' nt nb bid tp tb ta te := by
  obtain ⟨h1, h2, h3, h4, h5⟩ := h
  refine ⟨h1, by rw [hI 0 6 (by unfold gT gS; omega)]; exact h2, by rw [hI 59 107 (by unfold gT gS; omega)]; exact h3, fun i hi => by rw [hI (bid i) 9 (hB.ng (x := 0) hi (by omega))]; exact h4 i hi, fun k hk => ?_⟩
  have h9 := h5 k hk
  have hb := h9.2.1
  rw [hI 133 k (by unfold gT gS; omega), hI 134 k (by unfold gT gS; omega), hI 135 k (by unfold gT gS; omega), hI 136 k (by unfold gT gS; omega), hI 137 k (by unfold gT gS; omega), hI 138 k (by unfold gT gS; omega), hI _ _ (hB.ng (x := 5) hb (by omega)), hI _ _ (hB.ng (x := 6) hb (by omega)), hI _ _ (hB.ng (x := 7) hb (by omega))]
  exact h9
theorem TrD.st (h : TrD I nt nb bid tp tb ta te) {k w : Nat} (hk : k + (w + 1) = nt) (e' : tb k = b) : tcn tb b k < tcn tb b nt ∧ tcn tb b k < 30 ∧ tcn tb b (k + 1) = tcn tb b k + 1 := by
  have s : tcn tb b (k + 1) = tcn tb b k + 1 := by show tcn tb b k + (if tb k = b then 1 else 0) = _; rw [if_pos e']
  have m := tcn_mono (tb := tb) (i := b) (k := k + 1) w
  have l := tcn_le (tb := tb) (i := b) k
  have h1 := h.1
  rw [show k + 1 + w = nt by omega] at m
  exact ⟨by omega, by omega, s⟩
theorem tcn_no {k : Nat} (e' : tb k ≠ b) : tcn tb b (k + 1) = tcn tb b k := by show tcn tb b k + (if tb k = b then 1 else 0) = _; rw [if_neg e']; rfl
theorem trB_no {k : Nat} (e' : tb k ≠ b) : trB tp tb ta te p b a e k = false := decide_eq_false (fun z => e' z.2.1)
theorem TrD.key (h : TrD I nt nb bid tp tb ta te) {k : Nat} (hk : k < nt) (hp : p < 100) (ha : a < 10) (he : e < 10) (e' : tb k = b) : (I (bid b + 5) (tcn tb b k) = nI ((p * 10 + a) * 10 + e)) ↔ trB tp tb ta te p b a e k = true := by
  obtain ⟨g1, g2, g3, g4, g5, g6, g7, g8, g9, _⟩ := h.2.2.2.2 k hk
  subst e'
  rw [g9, q_ni (by omega) (by omega)]
  unfold trB
  rw [decide_eq_true_iff]
  exact ⟨fun z => ⟨by omega, rfl, by omega, by omega⟩, fun z => by rw [z.1, z.2.2.1, z.2.2.2]⟩
theorem c0_hasTrial (hB : BdK K nb bid) (hT : TrD I nt nb bid tp tb ta te) (hb : b < nb) (hp : p < 100) (ha : a < 10) (he : e < 10) (h : Q (some (.int (bI (trA (trB tp tb ta te p b a e) nt = true)))) I L) :
    RM0 n0 xX0_hasTrial d [.ref (n0 + bid b), .int (nI ((p * 10 + a) * 10 + e))] K I L Q := by
  have hlt := hB.lt hb
  have h1 := hT.1
  have lp : ∀ w k, k + w = nt → trA (trB tp tb ta te p b a e) k = false → Z n0 xX0_hasTrial d 0 0 2 [(0, .ref (n0 + bid b)), (1, .int (nI ((p * 10 + a) * 10 + e))), (2, .int (nI (tcn tb b k)))] [] K I L (z_q0 K Q) := by
    intro w
    induction w with
    | zero =>
      intro k hk hf
      refine wp_X0_hasTrial_2 ⟨by omega, hB.cls hb, ?_⟩
      rw [hT.2.2.2.1 b hb, show k = nt by omega]
      refine iq (fun z => by have := q_lt.mp z; omega) ?_
      rw [show k = nt by omega] at hf
      rw [bI_f (by rw [hf]; decide)] at h
      exact h
    | succ w ih =>
      intro k hk hf
      by_cases e' : tb k = b
      · obtain ⟨c1, c2, c3⟩ := hT.st hk e'
        refine wp_X0_hasTrial_2 ⟨by omega, hB.cls hb, ?_⟩
        rw [hT.2.2.2.1 b hb]
        refine ip (nI_lt c1 (by have := tcn_le (tb := tb) (i := b) nt; omega)) ⟨_, (hB.r hb).2.2.2.2.1, 30, by omega, (hB.s hb).2.2.2.2.1, q_inn c2 (by omega), ?_⟩
        rw [q_cl (by omega)]
        by_cases gk : trB tp tb ta te p b a e k = true
        · refine ip ((hT.key (by omega) hp ha he e').mpr gk) ?_
          have : trA (trB tp tb ta te p b a e) (k + 1 + w) = true := trA_mono (by show (trA _ k || trB tp tb ta te p b a e k) = true; rw [gk, Bool.or_true]) w
          rw [show k + 1 + w = nt by omega] at this
          rw [bI_t this] at h
          exact h
        · refine iq (fun z => gk ((hT.key (by omega) hp ha he e').mp z)) ?_
          rw [← nI_succ, ← c3]
          exact ih (k + 1) (by omega) (by show (trA _ k || trB tp tb ta te p b a e k) = false; rw [hf]; simpa using gk)
      · have := ih (k + 1) (by omega) (by show (trA _ k || trB tp tb ta te p b a e k) = false; rw [hf, trB_no e']; rfl)
        rw [tcn_no e'] at this
        exact this
  exact wp_X0_hasTrial (lp nt 0 (by omega) rfl)
theorem c0_leastSaid (hB : BdK K nb bid) (hT : TrD I nt nb bid tp tb ta te) (hb : b < nb) (hp : p < 100) (ha : a < 10) (he : e < 10) (h : Q (some (.int (trM (trB tp tb ta te p b a e) (I 137) gmx (-99999) nt))) I L) :
    RM0 n0 xX0_leastSaid (d + 1) [.ref (n0 + bid b), .int (nI ((p * 10 + a) * 10 + e))] K I L Q := by
  have hlt := hB.lt hb
  have h1 := hT.1
  have lp : ∀ w k, k + w = nt → Z n0 xX0_leastSaid (d + 1) 0 0 5 [(0, .ref (n0 + bid b)), (1, .int (nI ((p * 10 + a) * 10 + e))), (2, .int (trM (trB tp tb ta te p b a e) (I 137) gmx (-99999) k)), (3, .int (nI (tcn tb b k)))] [] K I L (z_q0 K Q) := by
    intro w
    induction w with
    | zero =>
      intro k hk
      refine wp_X0_leastSaid_5 ⟨by omega, hB.cls hb, ?_⟩
      rw [hT.2.2.2.1 b hb, show k = nt by omega]
      exact iq (fun z => by have := q_lt.mp z; omega) h
    | succ w ih =>
      intro k hk
      by_cases e' : tb k = b
      · obtain ⟨c1, c2, c3⟩ := hT.st hk e'
        refine wp_X0_leastSaid_5 ⟨by omega, hB.cls hb, ?_⟩
        rw [hT.2.2.2.1 b hb]
        refine ip (nI_lt c1 (by have := tcn_le (tb := tb) (i := b) nt; omega)) ⟨_, (hB.r hb).2.2.2.2.1, 30, by omega, (hB.s hb).2.2.2.2.1, q_inn c2 (by omega), ?_⟩
        rw [q_cl (by omega)]
        have nx := ih (k + 1) (by omega)
        rw [c3, nI_succ] at nx
        have y := (hT.2.2.2.2 k (by omega)).2.2.2.2.2.2.2.2.2.1
        rw [e'] at y
        by_cases gk : trB tp tb ta te p b a e k = true
        · refine ip ((hT.key (by omega) hp ha he e').mpr gk) ⟨_, (hB.r hb).2.2.2.2.2.1, 30, by omega, (hB.s hb).2.2.2.2.2.1, q_inn c2 (by omega), ?_⟩
          rw [y]
          rw [show trM (trB tp tb ta te p b a e) (I 137) gmx (-99999) (k + 1) = gmx (trM (trB tp tb ta te p b a e) (I 137) gmx (-99999) k) (I 137 k) by show (if _ then _ else _) = _; rw [if_pos gk]] at nx
          exact nx
        · refine iq (fun z => gk ((hT.key (by omega) hp ha he e').mp z)) ?_
          rw [show trM (trB tp tb ta te p b a e) (I 137) gmx (-99999) (k + 1) = trM (trB tp tb ta te p b a e) (I 137) gmx (-99999) k by show (if _ then _ else _) = _; rw [if_neg gk]] at nx
          exact nx
      · have := ih (k + 1) (by omega)
        rw [tcn_no e', show trM (trB tp tb ta te p b a e) (I 137) gmx (-99999) (k + 1) = trM (trB tp tb ta te p b a e) (I 137) gmx (-99999) k by show (if _ then _ else _) = _; rw [if_neg (by rw [trB_no e']; decide)]] at this
        exact this
  exact wp_X0_leastSaid (lp nt 0 (by omega))
theorem c0_mostSaid (hB : BdK K nb bid) (hT : TrD I nt nb bid tp tb ta te) (hb : b < nb) (hp : p < 100) (ha : a < 10) (he : e < 10) (h : Q (some (.int (trM (trB tp tb ta te p b a e) (I 138) gmn 199998 nt))) I L) :
    RM0 n0 xX0_mostSaid (d + 1) [.ref (n0 + bid b), .int (nI ((p * 10 + a) * 10 + e))] K I L Q := by
  have hlt := hB.lt hb
  have h1 := hT.1
  have lp : ∀ w k, k + w = nt → Z n0 xX0_mostSaid (d + 1) 0 0 5 [(0, .ref (n0 + bid b)), (1, .int (nI ((p * 10 + a) * 10 + e))), (2, .int (trM (trB tp tb ta te p b a e) (I 138) gmn 199998 k)), (3, .int (nI (tcn tb b k)))] [] K I L (z_q0 K Q) := by
    intro w
    induction w with
    | zero =>
      intro k hk
      refine wp_X0_mostSaid_5 ⟨by omega, hB.cls hb, ?_⟩
      rw [hT.2.2.2.1 b hb, show k = nt by omega]
      exact iq (fun z => by have := q_lt.mp z; omega) h
    | succ w ih =>
      intro k hk
      by_cases e' : tb k = b
      · obtain ⟨c1, c2, c3⟩ := hT.st hk e'
        refine wp_X0_mostSaid_5 ⟨by omega, hB.cls hb, ?_⟩
        rw [hT.2.2.2.1 b hb]
        refine ip (nI_lt c1 (by have := tcn_le (tb := tb) (i := b) nt; omega)) ⟨_, (hB.r hb).2.2.2.2.1, 30, by omega, (hB.s hb).2.2.2.2.1, q_inn c2 (by omega), ?_⟩
        rw [q_cl (by omega)]
        have nx := ih (k + 1) (by omega)
        rw [c3, nI_succ] at nx
        have y := (hT.2.2.2.2 k (by omega)).2.2.2.2.2.2.2.2.2.2.1
        rw [e'] at y
        by_cases gk : trB tp tb ta te p b a e k = true
        · refine ip ((hT.key (by omega) hp ha he e').mpr gk) ⟨_, (hB.r hb).2.2.2.2.2.2, 30, by omega, (hB.s hb).2.2.2.2.2.2, q_inn c2 (by omega), ?_⟩
          rw [y]
          rw [show trM (trB tp tb ta te p b a e) (I 138) gmn 199998 (k + 1) = gmn (trM (trB tp tb ta te p b a e) (I 138) gmn 199998 k) (I 138 k) by show (if _ then _ else _) = _; rw [if_pos gk]] at nx
          exact nx
        · refine iq (fun z => gk ((hT.key (by omega) hp ha he e').mp z)) ?_
          rw [show trM (trB tp tb ta te p b a e) (I 138) gmn 199998 (k + 1) = trM (trB tp tb ta te p b a e) (I 138) gmn 199998 k by show (if _ then _ else _) = _; rw [if_neg gk]] at nx
          exact nx
      · have := ih (k + 1) (by omega)
        rw [tcn_no e', show trM (trB tp tb ta te p b a e) (I 138) gmn 199998 (k + 1) = trM (trB tp tb ta te p b a e) (I 138) gmn 199998 k by show (if _ then _ else _) = _; rw [if_neg (by rw [trB_no e']; decide)]] at this
        exact this
  exact wp_X0_mostSaid (lp nt 0 (by omega))
/-- what the reference's loop holds at k -/
def trR (mt : Nat → Bool) (I : z_I) (k : Nat) (x y z : Int32) : Prop := (if trA mt k = true then x ≠ 0 ∧ (∃ c : Nat, x = nI c ∧ c ≤ k) ∧ y = trM mt (I 137) gmx (-99999) k ∧ z = trM mt (I 138) gmn 199998 k else x = 0 ∧ y = 0 ∧ z = 0 ∧ trM mt (I 137) gmx (-99999) k = -99999 ∧ trM mt (I 138) gmn 199998 k = 199998)
theorem c13_said65 {a5 : Int32} (hM : MLay K) (hT : TrD I nt nb bid tp tb ta te) (hnb : nb ≤ 12) (hp : p < 100) (hb : b < 100) (ha : a < 10) (he : e < 10)
    (h : ∀ x y z, trR (trB tp tb ta te p b a e) I nt x y z → Z n0 xX13_said (d + 1) 0 0 65 [(0, .ref (n0 + 59)), (1, .int (nI p)), (2, .int (nI b)), (3, .int (nI a)), (4, .int (nI e)), (5, .int a5), (6, .int x), (7, .int y), (8, .int z), (9, .int (nI nt))] [] K I L (z_q0 K Q)) :
    ∀ w k x y z, k + w = nt → trR (trB tp tb ta te p b a e) I k x y z → Z n0 xX13_said (d + 1) 0 0 65 [(0, .ref (n0 + 59)), (1, .int (nI p)), (2, .int (nI b)), (3, .int (nI a)), (4, .int (nI e)), (5, .int a5), (6, .int x), (7, .int y), (8, .int z), (9, .int (nI k))] [] K I L (z_q0 K Q) := by
  have h1 := hT.1
  intro w
  induction w with
  | zero => intro k x y z hk hr; rw [show k = nt by omega] at hr ⊢; exact h x y z hr
  | succ w ih =>
    intro k x y z hk hr
    obtain ⟨g1, g2, g3, g4, g5, g6, g7, g8, _, _, _, lo, hi⟩ := hT.2.2.2.2 k (by omega)
    refine wp_X13_said_65 hM ?_
    rw [hT.2.2.1]
    refine ip (nI_lt (by omega) (by omega)) ⟨q_inn (by omega) (by omega), ?_⟩
    rw [q_cl (by omega), g5, g6, g7, g8, ← nI_succ]
    have q0 : (-99999 : Int32).toInt = -99999 := rfl
    have q1 : (199998 : Int32).toInt = 199998 := rfl
    by_cases gk : trB tp tb ta te p b a e k = true
    · have g := of_decide_eq_true gk
      have s1 : trM (trB tp tb ta te p b a e) (I 137) gmx (-99999) (k + 1) = gmx (trM (trB tp tb ta te p b a e) (I 137) gmx (-99999) k) (I 137 k) := by show (if _ then _ else _) = _; rw [if_pos gk]
      have s2 : trM (trB tp tb ta te p b a e) (I 138) gmn 199998 (k + 1) = gmn (trM (trB tp tb ta te p b a e) (I 138) gmn 199998 k) (I 138 k) := by show (if _ then _ else _) = _; rw [if_pos gk]
      have s3 : trA (trB tp tb ta te p b a e) (k + 1) = true := by show (_ || _) = true; rw [gk, Bool.or_true]
      rw [g.1, g.2.1, g.2.2.1, g.2.2.2]
      simp only [if_true]
      refine ih (k + 1) _ _ _ (by omega) ?_
      unfold trR at hr ⊢
      rw [s3, if_pos rfl, s1, s2]
      by_cases ga : trA (trB tp tb ta te p b a e) k = true
      · rw [ga, if_pos rfl] at hr
        obtain ⟨r1, ⟨c, r2, r3⟩, r4, r5⟩ := hr
        have r1' := r1
        rw [r2] at r1
        refine ⟨?_, ⟨c + 1, by rw [r2, nI_succ], by omega⟩, ?_, ?_⟩
        · rw [r2, ← nI_succ]
          intro z
          have := (q_ni (a := c + 1) (b := 0) (by omega) (by omega)).mp z
          omega
        · rw [if_neg r1', r4]; rfl
        · rw [if_neg r1', if_neg r1', r5]; simp only [ite_self]; rfl
      · rw [if_neg ga] at hr
        obtain ⟨r1, r2, r3, r4, r5⟩ := hr
        rw [r1, r4, r5]
        refine ⟨by decide, ⟨1, rfl, by omega⟩, ?_, ?_⟩
        · rw [if_pos rfl]; unfold gmx
          by_cases c : (-99999 : Int32) < I 137 k
          · rw [if_pos c]
          · rw [if_neg c]; have := mt q_lt.mpr c; exact q_eq.mpr (by omega)
        · simp only [if_true]
          unfold gmn
          by_cases c : I 138 k < (199998 : Int32)
          · rw [if_pos c]
          · rw [if_neg c]; have := mt q_lt.mpr c; exact q_eq.mpr (by omega)
    · have s1 : trM (trB tp tb ta te p b a e) (I 137) gmx (-99999) (k + 1) = trM (trB tp tb ta te p b a e) (I 137) gmx (-99999) k := by show (if _ then _ else _) = _; rw [if_neg gk]
      have s2 : trM (trB tp tb ta te p b a e) (I 138) gmn 199998 (k + 1) = trM (trB tp tb ta te p b a e) (I 138) gmn 199998 k := by show (if _ then _ else _) = _; rw [if_neg gk]
      have s3 : trA (trB tp tb ta te p b a e) (k + 1) = trA (trB tp tb ta te p b a e) k := by show (_ || _) = _; rw [show trB tp tb ta te p b a e k = false by simpa using gk, Bool.or_false]
      have fin : Z n0 xX13_said (d + 1) 0 0 65 [(0, .ref (n0 + 59)), (1, .int (nI p)), (2, .int (nI b)), (3, .int (nI a)), (4, .int (nI e)), (5, .int a5), (6, .int x), (7, .int y), (8, .int z), (9, .int (nI (k + 1)))] [] K I L (z_q0 K Q) := by
        refine ih (k + 1) _ _ _ (by omega) ?_
        unfold trR at hr ⊢
        rw [s1, s2, s3]
        by_cases ga : trA (trB tp tb ta te p b a e) k = true
        · rw [if_pos ga] at hr ⊢
          obtain ⟨r1, ⟨c, r2, r3⟩, r4⟩ := hr
          exact ⟨r1, ⟨c, r2, by omega⟩, r4⟩
        · rw [if_neg ga] at hr ⊢; exact hr
      have nk : ¬ (tp k = p ∧ tb k = b ∧ ta k = a ∧ te k = e) := fun z => gk (decide_eq_true z)
      by_cases c1 : tp k = p
      · by_cases c2 : tb k = b
        · by_cases c3 : ta k = a
          · have c4 : ¬ te k = e := fun z => nk ⟨c1, c2, c3, z⟩
            have c4' : ¬ (nI (te k) = nI e) := fun z => c4 ((q_ni (by omega) (by omega)).mp z)
            rw [if_neg c4', if_neg c4', if_neg c4']
            simp only [ite_self]
            exact fin
          · have c4' : ¬ (nI (ta k) = nI a) := fun z => c3 ((q_ni (by omega) (by omega)).mp z)
            rw [if_neg c4', if_neg c4', if_neg c4']
            simp only [ite_self]
            exact fin
        · have c4' : ¬ (nI (tb k) = nI b) := fun z => c2 ((q_ni (by omega) (by omega)).mp z)
          rw [if_neg c4', if_neg c4', if_neg c4']
          simp only [ite_self]
          exact fin
      · have c4' : ¬ (nI (tp k) = nI p) := fun z => c1 ((q_ni (by omega) (by omega)).mp z)
        rw [if_neg c4', if_neg c4', if_neg c4']
        exact fin
end SAD
