/-! the table: chains of tellings against the log -/
def Tch (K : z_K) (I : z_I) : List (Int32 × Int32) → Option Nat → Prop
  | [], o => o = none
  | e :: c, o => ∃ q, o = some q ∧ 152 ≤ q ∧ q < K.1 ∧ (K.2.1 q).1 = 11 ∧ I q 0 = e.1 ∧ I q 1 = e.2 ∧ Tch K I c (K.2.2 q 2) ∧ (∀ q', K.2.2 q 2 = some q' → q' < q)
def numV : List (Int32 × Int32) → Int32 → Int32
  | [], _ => 0
  | e :: c, d => if d < e.1 then numV c d else e.2
/-- the log's last word on a measure at a size as of a day, of its first n entries -/
def tabV (I : z_I) (m s d : Int32) : Nat → Int32
  | 0 => 0
  | n + 1 => if I 60 n = m then if I 61 n = s then if d < I 63 n then tabV I m s d n else I 62 n else tabV I m s d n else tabV I m s d n
section TB
variable {n0 d dr dd : Nat} {K : z_K} {I : z_I} {L : z_L} {P : z_I → z_L → Prop} {Q : z_q}
theorem c12_numberOn_loop (hC : CLay K) {dy : Int32} {rc rs : Nat} : ∀ (c : List (Int32 × Int32)) (o : Option Nat), Tch K I c o → Q (some (.int (numV c dy))) I L → Z n0 xX12_numberOn d rc rs 13 [(3, .int dy), (4, zr n0 o)] [] K I L (z_q0 K Q) := by
  intro c
  induction c with
  | nil =>
    intro o h hq
    have h : o = none := h
    subst h
    exact wp_X12_numberOn_13 hC (osn hq)
  | cons e c ih =>
    intro o h hq
    obtain ⟨q, rfl, h1, h2, h3, h4, h5, h6, -⟩ := h
    refine wp_X12_numberOn_13 hC (oss ⟨h2, h3, ?_⟩)
    rw [h4, h5]
    by_cases g : dy < e.1
    · refine ip g (fun o' ho' => ih o' (ho' ▸ h6) ?_)
      simpa [numV, g] using hq
    · refine iq g ?_
      simpa [numV, g] using hq
theorem q_11 {m s : Nat} : (nI m * 11 + nI s) = nI (11 * m + s) := by
  rw [show (11 : Int32) = nI 11 from rfl, q_nmul, q_nadd, Nat.mul_comm]
theorem c12_numberOn {m s : Nat} {dy : Int32} {c : List (Int32 × Int32)} (hC : CLay K) (hm : m < 8) (hs : s < 11) (h : Tch K I c (K.2.2 2 (11 * m + s))) (hq : Q (some (.int (numV c dy))) I L) : RM0 n0 xX12_numberOn d [.ref (n0 + 0), .int (nI m), .int (nI s), .int dy] K I L Q := by
  refine wp_X12_numberOn hC ?_
  rw [q_11, q_cl (by omega)]
  exact ⟨q_inn (by omega) (by omega), fun o ho => c12_numberOn_loop hC c o (ho ▸ h) hq⟩
theorem c13_tabledOn {m s dy : Int32} {t : Nat} (hM : MLay K) (ht : I 59 1 = nI t) (htb : t ≤ 2100) (hq : Q (some (.int (tabV I m s dy t))) I L) : RM0 n0 xX13_tabledOn d [.ref (n0 + 59), .int m, .int s, .int dy] K I L Q := by
  have loop : ∀ n j, j + n = t → Z n0 xX13_tabledOn d 0 0 6 [(0, .ref (n0 + 59)), (1, .int m), (2, .int s), (3, .int dy), (4, .int (tabV I m s dy j)), (5, .int (nI j))] [] K I L (z_q0 K Q) := by
    intro n
    induction n with
    | zero =>
      intro j hj
      have : j = t := by omega
      subst this
      exact wp_X13_tabledOn_6 hM (iq (by rw [ht]; exact nI_nlt (Nat.le_refl _) (by omega)) hq)
    | succ n ih =>
      intro j hj
      refine wp_X13_tabledOn_6 hM (ip (by rw [ht]; exact nI_lt (by omega) (by omega)) ⟨q_inn (by omega) (by omega), ?_⟩)
      have := ih (j + 1) (by omega)
      rw [q_cl (by omega), ← nI_succ]
      exact this
  exact wp_X13_tabledOn hM (loop t 0 (by omega))
/-- chains and log say the same -/
def Tab (K : z_K) (I : z_I) (t : Nat) : Prop := ∀ m s, m < 8 → s < 11 → ∃ c, Tch K I c (K.2.2 2 (11 * m + s)) ∧ (∀ dy, numV c dy = tabV I (nI m) (nI s) dy t) ∧ (∀ e ∈ c, e.1.toInt ≤ (I 59 0).toInt)
theorem op_tabled {m s dy : Int32} {t : Nat} (hC : CLay K) (hM : MLay K) (ht : I 59 1 = nI t) (htb : t ≤ 2100) (hT : Tab K I t) (hr : ∀ k, 1 ≤ k → k ≤ 7 → P (rfI I k) L) (hs : P I L) : Op0 n0 xX12_tabled xX13_tabled (d + 1) (d + 2) [.int m, .int s, .int dy] K I L P := by
  refine wp_X12_tabled hC (c12_isMeasure hC ⟨_, rfl, ?_⟩)
  by_cases gm : 0 ≤ m.toInt ∧ m.toInt < 8
  · have hbm : bI (0 ≤ m.toInt ∧ m.toInt < 8) = 1 := bI_t gm
    rw [hbm]
    refine iq (by decide) (c12_isSize hC ⟨_, rfl, ?_⟩)
    by_cases gs : 0 ≤ s.toInt ∧ s.toInt < 11
    · have hbs : bI (0 ≤ s.toInt ∧ s.toInt < 11) = 1 := bI_t gs
      rw [hbs]
      refine iq (by decide) (c12_outside hC ⟨_, rfl, ?_⟩)
      rcases bnd_cases dy 0 1000 with ⟨e, g⟩ | ⟨e, g0, g⟩ | ⟨e, g0, g⟩
      · rw [e]
        refine iq (by decide) (op_rf 4 hC (by omega) (by omega) rfl (wp_X13_tabled hM (c13_isMeasure hM ⟨_, rfl, ?_⟩)))
        rw [hbm]
        refine iq (by decide) (c13_isSize hM ⟨_, rfl, ?_⟩)
        rw [hbs]
        refine iq (by decide) (c13_bounds hM ⟨_, rfl, ?_⟩)
        rw [e]
        refine ip (by decide) (c13_bounds hM ⟨_, rfl, ?_⟩)
        rw [e]
        exact op_rr 4 hM (by omega) rfl (hr 4 (by omega) (by omega))
      · rw [e]
        refine iq (by decide) (op_rf 6 hC (by omega) (by omega) rfl (wp_X13_tabled hM (c13_isMeasure hM ⟨_, rfl, ?_⟩)))
        rw [hbm]
        refine iq (by decide) (c13_isSize hM ⟨_, rfl, ?_⟩)
        rw [hbs]
        refine iq (by decide) (c13_bounds hM ⟨_, rfl, ?_⟩)
        rw [e]
        refine ip (by decide) (c13_bounds hM ⟨_, rfl, ?_⟩)
        rw [e]
        exact op_rr 6 hM (by omega) rfl (hr 6 (by omega) (by omega))
      · rw [e]
        obtain ⟨i, rfl, hi1, ei⟩ := q_of gm.1
        obtain ⟨j, rfl, hj1, ej⟩ := q_of gs.1
        obtain ⟨c, h1, h2, -⟩ := hT i j (by omega) (by omega)
        refine ip rfl (c12_numberOn hC (by omega) (by omega) h1 ⟨_, rfl, _, rfl, wp_X13_tabled hM (c13_isMeasure hM ⟨_, rfl, ?_⟩)⟩)
        rw [hbm]
        refine iq (by decide) (c13_isSize hM ⟨_, rfl, ?_⟩)
        rw [hbs]
        refine iq (by decide) (c13_bounds hM ⟨_, rfl, ?_⟩)
        rw [e]
        refine iq (by decide) (c13_tabledOn hM ht htb ⟨_, rfl, ?_, hs⟩)
        rw [h2]
    · rw [bI_f gs]
      refine ip rfl (op_rf 1 hC (by omega) (by omega) rfl (wp_X13_tabled hM (c13_isMeasure hM ⟨_, rfl, ?_⟩)))
      rw [hbm]
      refine iq (by decide) (c13_isSize hM ⟨_, rfl, ?_⟩)
      rw [bI_f gs]
      exact ip rfl (op_rr 1 hM (by omega) rfl (hr 1 (by omega) (by omega)))
  · rw [bI_f gm]
    refine ip rfl (op_rf 1 hC (by omega) (by omega) rfl (wp_X13_tabled hM (c13_isMeasure hM ⟨_, rfl, ?_⟩)))
    rw [bI_f gm]
    exact ip rfl (op_rr 1 hM (by omega) rfl (hr 1 (by omega) (by omega)))
/-- what counts for a body -/
def msd (I : z_I) (b m t : Nat) : Int32 := if I 65 (8 * b + m) < 0 then tabV I (nI m) (I 64 b) (I 59 0) t else I 65 (8 * b + m)
theorem c13_measuredOf {b m t : Nat} (hM : MLay K) (hb : b < 12) (hm : m < 8) (ht : I 59 1 = nI t) (htb : t ≤ 2100) (hq : Q (some (.int (msd I b m t))) I L) : RM0 n0 xX13_measuredOf (d + 1) [.ref (n0 + 59), .int (nI b), .int (nI m)] K I L Q := by
  refine wp_X13_measuredOf hM ?_
  rw [q_8j, q_cl (by omega), q_cl (by omega)]
  refine ⟨q_inn (by omega) (by omega), ?_⟩
  unfold msd at hq
  by_cases g : I 65 (8 * b + m) < 0
  · rw [if_pos g] at hq
    exact ip g ⟨q_inn hb (by omega), c13_tabledOn hM ht htb ⟨_, rfl, hq⟩⟩
  · rw [if_neg g] at hq
    exact iq g hq
theorem c12_countsNow {nb : Nat} {bid : Nat → Nat} {b m t : Nat} (hC : CLay K) (hB : BdK K nb bid) (hb : b < nb) (hm : m < 8) (hd : I 0 0 = I 59 0) (he : I (bid b + 1) m = I 65 (8 * b + m)) (hsz : I (bid b) 0 = I 64 b) (hs0 : ∃ j, j < 11 ∧ I 64 b = nI j) (hv : -1 ≤ (I 65 (8 * b + m)).toInt) (hT : Tab K I t) (hq : Q (some (.int (msd I b m t))) I L) : RM0 n0 xX12_countsNow (d + 1) [.ref (n0 + 0), .ref (n0 + bid b), .int (nI m)] K I L Q := by
  have hlt := hB.lt hb
  obtain ⟨j, hj, ej⟩ := hs0
  refine wp_X12_countsNow hC ⟨by omega, hB.cls hb, _, (hB.r hb).1, 8, by omega, (hB.s hb).1, q_inn hm (by omega), ?_⟩
  rw [q_cl (by omega), he, hsz, hd]
  unfold msd at hq
  by_cases g : I 65 (8 * b + m) = (-1)
  · rw [if_pos (by rw [g]; decide)] at hq
    obtain ⟨c, h1, h2, -⟩ := hT m j hm hj
    refine ip g ?_
    rw [ej]
    refine c12_numberOn hC hm hj h1 ⟨_, rfl, ?_⟩
    rw [h2, ← ej]
    exact hq
  · have g' : ¬ I 65 (8 * b + m) < 0 := fun q => by
      have h3 := q_lt.mp q
      have h4 : (0 : Int32).toInt = 0 := rfl
      have h5 : (I 65 (8 * b + m)).toInt ≠ -1 := fun z => g (q_eq.mpr z)
      omega
    rw [if_neg g'] at hq
    exact iq g hq
end TB
