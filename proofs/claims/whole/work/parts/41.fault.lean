section FLT2
variable {n0 d : Nat} {K : z_K} {I : z_I} {L : z_L} {Q : z_q} {np ne p : Nat} {pid pts eid lc : Nat → Nat} {hp : Nat → Nat → Nat} {par : Nat → Option Nat} {P : z_I → z_L → Prop}
theorem c13_fault_87 {a2 B : Int32} {e : Nat} (hM : MLay K) (hH : HdK K I ne np eid pid lc hp) (hnp : np ≤ 16) (hne : ne ≤ 12) (he : e < ne) (hb : ∀ q, q < np → tb a2 q = cfR par p np q)
    (h : Z n0 xX13_fault (d + 1) 0 0 75 [(0, .ref (n0 + 59)), (2, .int a2), (3, .int (if anyF (fun i => cfR par p np (hp e i)) (lc e) = true then B ||| ((1 : Int32) <<< (nI e &&& 31 : Int32)) else B)), (4, .int (nI (e + 1)))] [] K I L (z_q0 K Q)) :
    ∀ w j, j + w = lc e → Z n0 xX13_fault (d + 1) 0 0 87 [(0, .ref (n0 + 59)), (2, .int a2), (3, .int (if anyF (fun i => cfR par p np (hp e i)) j = true then B ||| ((1 : Int32) <<< (nI e &&& 31 : Int32)) else B)), (4, .int (nI e)), (5, .int (nI j))] [] K I L (z_q0 K Q) := by
  obtain ⟨l8, l1, l2, l3⟩ := hH e he
  intro w
  induction w with
  | zero =>
    intro j hj
    have : j = lc e := by omega
    subst this
    refine wp_X13_fault_87 hM ⟨q_inn (by omega) (by omega), ?_⟩
    rw [q_cl (by omega), l2, ← nI_succ, ← nI_succ]
    exact iq (fun z => by have := q_lt.mp z; omega) h
  | succ w ih =>
    intro j hj
    obtain ⟨k1, k2, k3⟩ := l3 j (by omega)
    have nx := ih (j + 1) (by omega)
    refine wp_X13_fault_87 hM ⟨q_inn (by omega) (by omega), ?_⟩
    rw [q_cl (by omega), l2, q_8j, q_cl (by omega), k3, tb_shr (by omega), hb _ k1, ← nI_succ]
    refine ip (nI_lt (by omega) (by omega)) ⟨q_inn (by omega) (by omega), ?_⟩
    have hst : anyF (fun i => cfR par p np (hp e i)) (j + 1) = (anyF (fun i => cfR par p np (hp e i)) j || cfR par p np (hp e j)) := rfl
    rw [hst] at nx
    cases c : cfR par p np (hp e j) with
    | true =>
      rw [c] at nx
      rw [if_pos (by simp)] at nx
      rw [bI_t rfl]
      by_cases g : anyF (fun i => cfR par p np (hp e i)) j = true
      · rw [if_pos g, or_two]; exact nx
      · rw [if_neg g]; exact nx
    | false =>
      rw [c, Bool.or_false] at nx
      rw [bI_f (by decide), z_shl e (by omega), or_z]
      exact nx
theorem c13_fault_75 {a2 : Int32} (hM : MLay K) (hH : HdK K I ne np eid pid lc hp) (hn : I 59 114 = nI ne) (hnp : np ≤ 16) (hne : ne ≤ 12) (hb : ∀ q, q < np → tb a2 q = cfR par p np q) (h : Q (some (.int (fbits (fun e => anyF (fun i => cfR par p np (hp e i)) (lc e)) ne))) I L) :
    ∀ w j, j + w = ne → Z n0 xX13_fault (d + 1) 0 0 75 [(0, .ref (n0 + 59)), (2, .int a2), (3, .int (fbits (fun e => anyF (fun i => cfR par p np (hp e i)) (lc e)) j)), (4, .int (nI j))] [] K I L (z_q0 K Q) := by
  intro w
  induction w with
  | zero =>
    intro j hj
    have : j = ne := by omega
    subst this
    refine wp_X13_fault_75 hM ?_
    rw [hn]
    exact iq (fun z => by have := q_lt.mp z; omega) h
  | succ w ih =>
    intro j hj
    refine wp_X13_fault_75 hM ?_
    rw [hn]
    exact ip (nI_lt (by omega) (by omega)) (c13_fault_87 (e := j) (p := p) (par := par) (B := fbits (fun e => anyF (fun i => cfR par p np (hp e i)) (lc e)) j) hM hH hnp hne (by omega) hb (ih (j + 1) (by omega)) (lc j) 0 (by omega))
theorem c13_fault_22 (hM : MLay K) (hB : BlK K I np pid par) (hn : I 59 9 = nI np) (hnp : np ≤ 16) (hp : p < np) (h : ∀ a2 : Int32, (∀ q, q < np → tb a2 q = cfR par p np q) → Z n0 xX13_fault (d + 1) 0 0 75 [(0, .ref (n0 + 59)), (2, .int a2), (3, .int 0), (4, .int 0)] [] K I L (z_q0 K Q)) :
    ∀ w j, j + w = np → p < j → ∀ a2 : Int32, (∀ q, q < j → tb a2 q = cfR par p np q) → (∀ q, j ≤ q → q < 32 → tb a2 q = false) → Z n0 xX13_fault (d + 1) 0 0 22 [(0, .ref (n0 + 59)), (2, .int a2), (3, .int (nI j))] [] K I L (z_q0 K Q) := by
  have hb : ∀ q, q < np → ∀ b, par q = some b → b < q := fun q hq b e => ((hB q hq).2.2.2 b e).1
  intro w
  induction w with
  | zero =>
    intro j hj hpj a2 h1 h2
    have : j = np := by omega
    subst this
    refine wp_X13_fault_22 hM ?_
    rw [hn]
    exact iq (fun z => by have := q_lt.mp z; omega) (h a2 h1)
  | succ w ih =>
    intro j hj hpj a2 h1 h2
    refine wp_X13_fault_22 hM ?_
    rw [hn]
    refine ip (nI_lt (by omega) (by omega)) ⟨q_inn (by omega) (by omega), ?_⟩
    rw [q_cl (by omega), ← nI_succ]
    have key : ∀ c : Bool, c = cfR par p np j → (∀ q, q < j + 1 → tb (a2 ||| (if c = true then ((1 : Int32) <<< (nI j &&& 31 : Int32)) else 0)) q = cfR par p np q) ∧ (∀ q, j + 1 ≤ q → q < 32 → tb (a2 ||| (if c = true then ((1 : Int32) <<< (nI j &&& 31 : Int32)) else 0)) q = false) := by
      intro c hc
      cases c with
      | true =>
        rw [if_pos rfl]
        refine ⟨fun q hq => ?_, fun q hq hq2 => ?_⟩
        · rw [tb_or, tb_one (by omega) (by omega)]
          by_cases e : q = j
          · rw [e, ← hc]; simp
          · rw [decide_eq_false e, Bool.or_false]; exact h1 q (by omega)
        · rw [tb_or, tb_one (by omega) (by omega), decide_eq_false (by omega), Bool.or_false]
          exact h2 q (by omega) hq2
      | false =>
        rw [if_neg (by decide), or_z]
        refine ⟨fun q hq => ?_, fun q hq hq2 => h2 q (by omega) hq2⟩
        by_cases e : q = j
        · rw [e, ← hc]; exact h2 j (by omega) (by omega)
        · exact h1 q (by omega)
    have cj := cf_eq (p := p) hb (show j < np by omega)
    rw [if_neg (by omega)] at cj
    cases ep : par j with
    | none =>
      have n3 := ((hB j (by omega)).2.2.1 ep).1
      rw [if_neg n3]
      rw [ep] at cj
      have := key false cj.symm
      rw [if_neg (by decide)] at this
      exact ih (j + 1) (by omega) (by omega) _ this.1 this.2
    | some b =>
      obtain ⟨b1, b2, b3, b4⟩ := (hB j (by omega)).2.2.2 b ep
      rw [if_pos b2, b3, tb_shr (by omega), h1 b (by omega)]
      rw [ep] at cj
      have cj' : cfR par p np j = cfR par p np b := cj
      have := key (cfR par p np b) cj'.symm
      cases c : cfR par p np b with
      | true =>
        rw [c, if_pos rfl] at this
        rw [bI_t rfl, if_pos rfl]
        exact ih (j + 1) (by omega) (by omega) _ this.1 this.2
      | false =>
        rw [c, if_neg (by decide)] at this
        rw [bI_f (by decide), if_neg (by decide)]
        exact ih (j + 1) (by omega) (by omega) _ this.1 this.2
theorem op_fault {p0 : Int32} (hC : CLay K) (hM : MLay K) (hP : PcK K np pid) (hN : PcN I np pid pts) (hB : BlK K I np pid par) (hE : EdK K ne eid) (hn : I 0 18 = nI ne) (hn2 : I 59 114 = nI ne) (hH : HdK K I ne np eid pid lc hp) (hr : ∀ k, 1 ≤ k → k ≤ 7 → P (rfI I k) L) (hs : P I L) : Op0 n0 xX12_fault xX13_fault (d + 3) (d + 2) [.int p0] K I L P := by
  have hnp := hP.n
  have h12 := hE.1
  by_cases g : 0 ≤ p0.toInt ∧ p0.toInt < np
  · obtain ⟨i, rfl, hi1, ei⟩ := q_of g.1
    have hi : i < np := by omega
    have hb : ∀ q, q < np → ∀ b, par q = some b → b < q := fun q hq b e => ((hB q hq).2.2.2 b e).1
    refine wp_X12_fault hC (c12_pieceOf_t hC hP hN.1 hi ⟨_, rfl, oss (c12_fault_l hC hP hB hE hH hn hi ⟨_, rfl, wp_X13_fault hM (c13_isPiece hM hN.2.1 (by omega) ⟨_, rfl, ?_⟩)⟩ ne 0 (by omega))⟩)
    rw [bI_t g]
    refine iq (by decide) ?_
    rw [← nI_succ]
    refine c13_fault_22 (p := i) (par := par) hM hB hN.2.1 hnp hi (fun a2 ha2 => c13_fault_75 (p := i) (par := par) hM hH hn2 hnp h12 ha2 ⟨rfl, hs⟩ ne 0 (by omega)) (np - (i + 1)) (i + 1) (by omega) (by omega) _ (fun q hq => ?_) (fun q hq hq2 => ?_)
    · rw [tb_one (by omega) (by omega)]
      by_cases e : q = i
      · rw [e, cf_eq hb hi, if_pos rfl]; simp
      · rw [cf_low hb hi q (by omega)]; simp [e]
    · rw [tb_one (by omega) (by omega)]
      exact decide_eq_false (by omega)
  · refine wp_X12_fault hC (c12_pieceOf_f hC hP hN.1 g ⟨_, rfl, osn (op_rf 1 hC (by omega) (by omega) rfl (wp_X13_fault hM (c13_isPiece hM (hN.n' re_rf) (by omega) ⟨_, rfl, ?_⟩)))⟩)
    rw [bI_f g]
    exact ip rfl (op_rr 1 hM (by omega) rfl (hr 1 (by omega) (by omega)))
end FLT2
