/-! bits of an Int32 -/
section BIT
variable {x y : Int32} {i j : Nat}
def tb (x : Int32) (i : Nat) : Bool := x.toBitVec.getLsbD i
theorem tb_ext (h : ∀ i, i < 32 → tb x i = tb y i) : x = y := Int32.toBitVec_inj.mp (BitVec.eq_of_getLsbD_eq (fun i hi => h i hi))
theorem tb_or : tb (x ||| y) i = (tb x i || tb y i) := by unfold tb; rw [Int32.toBitVec_or, BitVec.getLsbD_or]
theorem tb_and : tb (x &&& y) i = (tb x i && tb y i) := by unfold tb; rw [Int32.toBitVec_and, BitVec.getLsbD_and]
theorem tb_xor : tb (x ^^^ y) i = (tb x i ^^ tb y i) := by unfold tb; rw [Int32.toBitVec_xor, BitVec.getLsbD_xor]
theorem tb_0 : tb 0 i = false := by
  show (0#32).getLsbD i = false
  simp
theorem tb_1 : ∀ i, i < 32 → tb 1 i = decide (i = 0) := by decide
theorem sh_ok : ∀ i, i < 32 → (nI i &&& 31 : Int32) = nI i := by decide
theorem sh_smod : ∀ i, i < 32 → ((nI i).toBitVec.smod 32).toNat = i := by decide
theorem tb_shl (hi : i < 32) (hj : j < 32) : tb (x <<< (nI i &&& 31 : Int32)) j = (decide (i ≤ j) && tb x (j - i)) := by
  unfold tb
  rw [sh_ok i hi, Int32.toBitVec_shiftLeft, BitVec.shiftLeft_eq', sh_smod i hi, BitVec.getLsbD_shiftLeft]
  by_cases h : i ≤ j
  · have h1 : decide (j < i) = false := decide_eq_false (by omega)
    have h2 : decide (j < 32) = true := decide_eq_true hj
    have h3 : decide (i ≤ j) = true := decide_eq_true h
    rw [h1, h2, h3]; simp
  · have h1 : decide (j < i) = true := decide_eq_true (by omega)
    have h3 : decide (i ≤ j) = false := decide_eq_false h
    rw [h1, h3]; simp
theorem tb_sar (hi : i < 32) (hj : j < 32) : tb (x >>> (nI i &&& 31 : Int32)) j = if i + j < 32 then tb x (i + j) else tb x 31 := by
  unfold tb
  rw [sh_ok i hi, Int32.toBitVec_shiftRight, BitVec.sshiftRight_eq', sh_smod i hi, BitVec.getLsbD_sshiftRight]
  have h2 : decide (32 ≤ j) = false := decide_eq_false (by omega)
  rw [h2, BitVec.msb_eq_getLsbD_last]
  simp
theorem tb_bI {p : Prop} [Decidable p] (hj : j < 32) : tb (bI p) j = (decide p && decide (j = 0)) := by
  by_cases h : p
  · rw [bI_t h, tb_1 j hj, decide_eq_true h]; simp
  · rw [bI_f h, tb_0, decide_eq_false h]; simp
theorem tb_shr (hi : i < 32) : ((x >>> (nI i &&& 31 : Int32)) &&& 1) = bI (tb x i = true) := by
  refine tb_ext (fun j hj => ?_)
  rw [tb_and, tb_1 j hj, tb_bI hj, tb_sar hi hj]
  by_cases h : j = 0
  · subst h
    rw [if_pos (by omega), Nat.add_zero]
    simp
  · simp [h]
theorem tb_one (hi : i < 32) (hj : j < 32) : tb ((1 : Int32) <<< (nI i &&& 31 : Int32)) j = decide (j = i) := by
  rw [tb_shl hi hj, tb_1 (j - i) (by omega)]
  by_cases h : j = i
  · subst h; simp
  · rw [decide_eq_false h]
    by_cases h2 : i ≤ j
    · rw [decide_eq_false (show ¬ j - i = 0 by omega)]; simp
    · rw [decide_eq_false h2]; simp
theorem z_shl : ∀ i, i < 32 → ((0 : Int32) <<< (nI i &&& 31 : Int32)) = 0 := by decide
theorem or_z : x ||| 0 = x := tb_ext (fun i _ => by rw [tb_or, tb_0]; simp)
theorem or_two : x ||| y ||| y = x ||| y := tb_ext (fun i _ => by rw [tb_or, tb_or]; cases tb x i <;> cases tb y i <;> rfl)
end BIT
/-! pieces and their blocks; what editions hold; fault -/
def cfR (par : Nat → Option Nat) (p : Nat) : Nat → Nat → Bool
  | 0, _ => false
  | f + 1, q => if q = p then true else match par q with
    | none => false
    | some b => cfR par p f b
def anyF (f : Nat → Bool) : Nat → Bool
  | 0 => false
  | n + 1 => anyF f n || f n
def fbits (g : Nat → Bool) : Nat → Int32
  | 0 => 0
  | n + 1 => if g n = true then fbits g n ||| ((1 : Int32) <<< (nI n &&& 31 : Int32)) else fbits g n
/-- each piece's block -/
def BlK (K : z_K) (I : z_I) (np : Nat) (pid : Nat → Nat) (par : Nat → Option Nat) : Prop := ∀ q, q < np → I (pid q) 0 = nI q ∧ I (pid q) 1 = I 66 q ∧ (par q = none → I 66 q ≠ 3 ∧ K.2.2 (pid q) 3 = none) ∧ ∀ b, par q = some b → b < q ∧ I 66 q = 3 ∧ I 68 q = nI b ∧ K.2.2 (pid q) 3 = some (pid b)
/-- what the editions hold -/
def HdK (K : z_K) (I : z_I) (ne np : Nat) (eid pid lc : Nat → Nat) (hp : Nat → Nat → Nat) : Prop := ∀ e, e < ne → lc e ≤ 8 ∧ I (eid e) 3 = nI (lc e) ∧ I 140 e = nI (lc e) ∧ ∀ i, i < lc e → hp e i < np ∧ K.2.2 (eid e + 1) i = some (pid (hp e i)) ∧ I 141 (8 * e + i) = nI (hp e i)
section FLT
variable {n0 d : Nat} {K : z_K} {I : z_I} {L : z_L} {Q : z_q} {np ne p : Nat} {pid pts eid lc : Nat → Nat} {hp : Nat → Nat → Nat} {par : Nat → Option Nat} {P : z_I → z_L → Prop}
theorem cf_st (hb : ∀ q, q < np → ∀ b, par q = some b → b < q) : ∀ f q g, q < f → q < g → q < np → cfR par p f q = cfR par p g q := by
  intro f
  induction f with
  | zero => intro q g h; omega
  | succ f ih =>
    intro q g h1 h2 h3
    cases g with
    | zero => omega
    | succ g =>
      show (if q = p then true else match par q with | none => false | some b => cfR par p f b) = (if q = p then true else match par q with | none => false | some b => cfR par p g b)
      cases e : par q with
      | none => rfl
      | some b =>
        have := hb q h3 b e
        show (if q = p then true else cfR par p f b) = (if q = p then true else cfR par p g b)
        rw [ih b g (by omega) (by omega) (by omega)]
theorem cf_eq (hb : ∀ q, q < np → ∀ b, par q = some b → b < q) {q : Nat} (hq : q < np) : cfR par p np q = if q = p then true else match par q with | none => false | some b => cfR par p np b := by
  rw [cf_st hb np q (q + 1) hq (by omega) hq]
  show (if q = p then true else match par q with | none => false | some b => cfR par p q b) = _
  cases e : par q with
  | none => rfl
  | some b =>
    have := hb q hq b e
    show (if q = p then true else cfR par p q b) = (if q = p then true else cfR par p np b)
    rw [cf_st hb q b np this (by omega) (by omega)]
theorem cf_low (hb : ∀ q, q < np → ∀ b, par q = some b → b < q) (hp : p < np) : ∀ q, q < p → cfR par p np q = false := by
  intro q
  induction q using Nat.strongRecOn with
  | ind q ih =>
    intro hq
    rw [cf_eq hb (by omega), if_neg (by omega)]
    cases e : par q with
    | none => rfl
    | some b =>
      have := hb q (by omega) b e
      exact ih b this (by omega)
theorem c5_isFrom_l (hP : PcK K np pid) (hB : BlK K I np pid par) (hp : p < np) : ∀ q, q < np → Q (some (.int (bI (cfR par p np q = true)))) I L → Z n0 xX5_isOrComesFrom d 0 0 2 [(1, .ref (n0 + pid p)), (2, .ref (n0 + pid q))] [] K I L (z_q0 K Q) := by
  have hb : ∀ q, q < np → ∀ b, par q = some b → b < q := fun q hq b e => ((hB q hq).2.2.2 b e).1
  intro q
  induction q using Nat.strongRecOn with
  | ind q ih =>
    intro hq h
    have hlt := hP.lt hq
    rw [cf_eq hb hq] at h
    refine wp_X5_isOrComesFrom_2 (a2 := some (pid q)) (oss ?_)
    by_cases e : q = p
    · rw [if_pos e, bI_t rfl] at h
      exact ip (by rw [e]) h
    · rw [if_neg e] at h
      refine iq (fun z => e (hP.inj hq hp (Option.some.inj z))) ⟨by omega, hP.cls hq, fun o ho => ?_⟩
      cases ep : par q with
      | none =>
        rw [((hB q hq).2.2.1 ep).2] at ho
        rw [← ho]
        rw [ep] at h
        have h' : Q (some (.int (bI (false = true)))) I L := h
        rw [bI_f (by decide)] at h'
        exact wp_X5_isOrComesFrom_2 (a2 := none) (osn h')
      | some b =>
        obtain ⟨b1, b2, b3, b4⟩ := (hB q hq).2.2.2 b ep
        rw [b4] at ho
        rw [← ho]
        rw [ep] at h
        exact ih b b1 (by omega) h
theorem c3_holdsFrom_l {e : Nat} (hP : PcK K np pid) (hB : BlK K I np pid par) (hE : EdK K ne eid) (hH : HdK K I ne np eid pid lc hp) (he : e < ne) (hpp : p < np) (h : Q (some (.int (bI (anyF (fun i => cfR par p np (hp e i)) (lc e) = true)))) I L) : ∀ w j, j + w = lc e → anyF (fun i => cfR par p np (hp e i)) j = false → Z n0 xX3_holdsFrom (d + 1) 0 0 2 [(0, .ref (n0 + eid e)), (1, .ref (n0 + pid p)), (2, .int (nI j))] [] K I L (z_q0 K Q) := by
  obtain ⟨l8, l1, l2, l3⟩ := hH e he
  obtain ⟨e1, e2, e3, e4, e5, e6, e7, e8, e9, e10, _⟩ := hE.2.1 e he
  intro w
  induction w with
  | zero =>
    intro j hj hf
    refine wp_X3_holdsFrom_2 ⟨by omega, e4, ?_⟩
    rw [l1]
    have : j = lc e := by omega
    rw [← this, hf, bI_f (by decide)] at h
    refine iq (fun z => ?_) h
    have := q_lt.mp z
    rw [q_nI (by omega), q_nI (by omega)] at this
    omega
  | succ w ih =>
    intro j hj hf
    obtain ⟨k1, k2, k3⟩ := l3 j (by omega)
    have hlt := hP.lt k1
    refine wp_X3_holdsFrom_2 ⟨by omega, e4, ?_⟩
    rw [l1]
    refine ip (nI_lt (by omega) (by omega)) ⟨_, e10, 8, by omega, e5, q_inn (by omega) (by omega), pid (hp e j), by rw [q_cl (by omega)]; exact k2, by omega, hP.cls k1, wp_X5_isOrComesFrom (c5_isFrom_l hP hB hpp (hp e j) k1 ⟨_, rfl, ?_⟩)⟩
    by_cases c : cfR par p np (hp e j) = true
    · rw [bI_t c]
      have hall : anyF (fun i => cfR par p np (hp e i)) (lc e) = true := by
        have mono : ∀ m, j < m → anyF (fun i => cfR par p np (hp e i)) m = true := by
          intro m
          induction m with
          | zero => intro hh; omega
          | succ m im =>
            intro hh
            show (anyF (fun i => cfR par p np (hp e i)) m || cfR par p np (hp e m)) = true
            by_cases q : j = m
            · rw [← q, c]; simp
            · rw [im (by omega)]; rfl
        exact mono _ (by omega)
      rw [hall, bI_t rfl] at h
      exact iq (by decide) h
    · rw [bI_f c]
      refine ip rfl ?_
      rw [← nI_succ]
      refine ih (j + 1) (by omega) ?_
      show (anyF (fun i => cfR par p np (hp e i)) j || cfR par p np (hp e j)) = false
      rw [hf]
      cases q : cfR par p np (hp e j) with
      | true => exact absurd q c
      | false => rfl
theorem c12_fault_l (hC : CLay K) (hP : PcK K np pid) (hB : BlK K I np pid par) (hE : EdK K ne eid) (hH : HdK K I ne np eid pid lc hp) (hn : I 0 18 = nI ne) (hpp : p < np) (h : Q (some (.int (fbits (fun e => anyF (fun i => cfR par p np (hp e i)) (lc e)) ne))) I L) : ∀ w j, j + w = ne → Z n0 xX12_fault (d + 3) 0 0 21 [(0, .ref (n0 + 0)), (2, .ref (n0 + pid p)), (3, .int (fbits (fun e => anyF (fun i => cfR par p np (hp e i)) (lc e)) j)), (4, .int (nI j))] [] K I L (z_q0 K Q) := by
  have h12 := hE.1
  intro w
  induction w with
  | zero =>
    intro j hj
    refine wp_X12_fault_21 (a2 := some (pid p)) hC ?_
    rw [hn]
    have : j = ne := by omega
    subst this
    exact iq (fun z => by have := q_lt.mp z; omega) h
  | succ w ih =>
    intro j hj
    have he : j < ne := by omega
    obtain ⟨e1, e2, e3, e4, e5, e6, e7, e8, e9, e10, _⟩ := hE.2.1 j he
    have nx := ih (j + 1) (by omega)
    refine wp_X12_fault_21 (a2 := some (pid p)) hC ?_
    rw [hn]
    refine ip (nI_lt (by omega) (by omega)) ⟨q_inn (by omega) (by omega), eid j, by rw [q_cl (by omega)]; exact e1, by omega, e4, wp_X3_holdsFrom (c3_holdsFrom_l hP hB hE hH he hpp ⟨_, rfl, ?_⟩ (lc j) 0 (by omega) rfl)⟩
    rw [← nI_succ]
    have hst : fbits (fun e => anyF (fun i => cfR par p np (hp e i)) (lc e)) (j + 1) = if anyF (fun i => cfR par p np (hp j i)) (lc j) = true then fbits (fun e => anyF (fun i => cfR par p np (hp e i)) (lc e)) j ||| ((1 : Int32) <<< (nI j &&& 31 : Int32)) else fbits (fun e => anyF (fun i => cfR par p np (hp e i)) (lc e)) j := rfl
    rw [hst] at nx
    by_cases c : anyF (fun i => cfR par p np (hp j i)) (lc j) = true
    · rw [if_pos c] at nx
      rw [bI_t c, if_neg (by decide)]
      exact nx
    · rw [if_neg c] at nx
      rw [bI_f c, if_pos rfl]
      exact nx
end FLT
