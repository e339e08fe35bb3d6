/-! what stands of the component's objects: pieces, bodies; rows of the reference -/
def RE (I' I : z_I) : Prop := ∀ a, 59 ≤ a → a < 152 → I' a = I a
theorem RE.rf {I : z_I} : RE I I := fun _ _ _ => rfl
theorem RE.z {I0 I : z_I} {r j : Nat} {v : Int32} (h : RE I I0) (hr : r < 59 ∨ 152 ≤ r) : RE (zI I r j v) I0 := fun a h1 h2 => (zI_r (by omega)).trans (h a h1 h2)
theorem osn {A : Prop} {B : Nat → Prop} (h : A) : ((none : Option Nat) = none → A) ∧ (∀ q, (none : Option Nat) = some q → B q) := ⟨fun _ => h, fun _ e => nomatch e⟩
theorem oss {q0 : Nat} {A : Prop} {B : Nat → Prop} (h : B q0) : ((some q0 : Option Nat) = none → A) ∧ (∀ q, (some q0 : Option Nat) = some q → B q) := ⟨fun e => (nomatch e), fun q e => by cases e; exact h⟩
/-- the pieces: np of them, piece p is the object pid p, its arrays behind it -/
def PcK (K : z_K) (np : Nat) (pid : Nat → Nat) : Prop := np ≤ 16 ∧ (∀ p, p < np → K.2.2 4 p = some (pid p) ∧ 152 ≤ pid p ∧ pid p + 6 < K.1 ∧ (K.2.1 (pid p)).1 = 5 ∧ K.2.1 (pid p + 1) = (36, 10) ∧ K.2.1 (pid p + 2) = (20, 10) ∧ K.2.1 (pid p + 3) = (20, 10) ∧ K.2.1 (pid p + 4) = (21, 10) ∧ K.2.1 (pid p + 5) = (20, 10) ∧ K.2.1 (pid p + 6) = (20, 10)
    ∧ K.2.2 (pid p) 5 = some (pid p + 1) ∧ K.2.2 (pid p) 6 = some (pid p + 2) ∧ K.2.2 (pid p) 7 = some (pid p + 3) ∧ K.2.2 (pid p) 8 = some (pid p + 4) ∧ K.2.2 (pid p) 9 = some (pid p + 5) ∧ K.2.2 (pid p) 10 = some (pid p + 6)) ∧ ∀ p q, p < np → q < np → pid p = pid q → p = q
section PC
variable {K : z_K} {np : Nat} {pid : Nat → Nat} {p : Nat}
theorem PcK.n (h : PcK K np pid) : np ≤ 16 := h.1
theorem PcK.at4 (h : PcK K np pid) (hp : p < np) : K.2.2 4 p = some (pid p) := (h.2.1 p hp).1
theorem PcK.ge (h : PcK K np pid) (hp : p < np) : 152 ≤ pid p := (h.2.1 p hp).2.1
theorem PcK.lt (h : PcK K np pid) (hp : p < np) : pid p + 6 < K.1 := (h.2.1 p hp).2.2.1
theorem PcK.cls (h : PcK K np pid) (hp : p < np) : (K.2.1 (pid p)).1 = 5 := (h.2.1 p hp).2.2.2.1
theorem PcK.inj (h : PcK K np pid) {q : Nat} (hp : p < np) (hq : q < np) (e : pid p = pid q) : p = q := h.2.2 p q hp hq e
theorem PcK.s (h : PcK K np pid) (hp : p < np) : K.2.1 (pid p + 1) = (36, 10) ∧ K.2.1 (pid p + 2) = (20, 10) ∧ K.2.1 (pid p + 3) = (20, 10) ∧ K.2.1 (pid p + 4) = (21, 10) ∧ K.2.1 (pid p + 5) = (20, 10) ∧ K.2.1 (pid p + 6) = (20, 10) :=
  ⟨(h.2.1 p hp).2.2.2.2.1, (h.2.1 p hp).2.2.2.2.2.1, (h.2.1 p hp).2.2.2.2.2.2.1, (h.2.1 p hp).2.2.2.2.2.2.2.1, (h.2.1 p hp).2.2.2.2.2.2.2.2.1, (h.2.1 p hp).2.2.2.2.2.2.2.2.2.1⟩
theorem PcK.r (h : PcK K np pid) (hp : p < np) : K.2.2 (pid p) 5 = some (pid p + 1) ∧ K.2.2 (pid p) 6 = some (pid p + 2) ∧ K.2.2 (pid p) 7 = some (pid p + 3) ∧ K.2.2 (pid p) 8 = some (pid p + 4) ∧ K.2.2 (pid p) 9 = some (pid p + 5) ∧ K.2.2 (pid p) 10 = some (pid p + 6) :=
  (h.2.1 p hp).2.2.2.2.2.2.2.2.2.2
end PC
/-- the bodies: nb of them, body b is the object bid b -/
def BdK (K : z_K) (nb : Nat) (bid : Nat → Nat) : Prop := nb ≤ 12 ∧ (∀ b, b < nb → K.2.2 3 b = some (bid b) ∧ 152 ≤ bid b ∧ bid b + 7 < K.1 ∧ (K.2.1 (bid b)).1 = 0 ∧ K.2.1 (bid b + 1) = (20, 8) ∧ K.2.1 (bid b + 2) = (20, 40) ∧ K.2.1 (bid b + 3) = (20, 40) ∧ K.2.1 (bid b + 4) = (20, 40) ∧ K.2.1 (bid b + 5) = (20, 30) ∧ K.2.1 (bid b + 6) = (20, 30) ∧ K.2.1 (bid b + 7) = (20, 30)
    ∧ K.2.2 (bid b) 1 = some (bid b + 1) ∧ K.2.2 (bid b) 2 = some (bid b + 2) ∧ K.2.2 (bid b) 3 = some (bid b + 3) ∧ K.2.2 (bid b) 4 = some (bid b + 4) ∧ K.2.2 (bid b) 6 = some (bid b + 5) ∧ K.2.2 (bid b) 7 = some (bid b + 6) ∧ K.2.2 (bid b) 8 = some (bid b + 7)) ∧ ∀ p q, p < nb → q < nb → bid p = bid q → p = q
section BD
variable {K : z_K} {nb : Nat} {bid : Nat → Nat} {b : Nat}
theorem BdK.n (h : BdK K nb bid) : nb ≤ 12 := h.1
theorem BdK.at3 (h : BdK K nb bid) (hp : b < nb) : K.2.2 3 b = some (bid b) := (h.2.1 b hp).1
theorem BdK.ge (h : BdK K nb bid) (hp : b < nb) : 152 ≤ bid b := (h.2.1 b hp).2.1
theorem BdK.lt (h : BdK K nb bid) (hp : b < nb) : bid b + 7 < K.1 := (h.2.1 b hp).2.2.1
theorem BdK.cls (h : BdK K nb bid) (hp : b < nb) : (K.2.1 (bid b)).1 = 0 := (h.2.1 b hp).2.2.2.1
theorem BdK.inj (h : BdK K nb bid) {q : Nat} (hp : b < nb) (hq : q < nb) (e : bid b = bid q) : b = q := h.2.2 b q hp hq e
theorem BdK.s (h : BdK K nb bid) (hp : b < nb) : K.2.1 (bid b + 1) = (20, 8) ∧ K.2.1 (bid b + 2) = (20, 40) ∧ K.2.1 (bid b + 3) = (20, 40) ∧ K.2.1 (bid b + 4) = (20, 40) ∧ K.2.1 (bid b + 5) = (20, 30) ∧ K.2.1 (bid b + 6) = (20, 30) ∧ K.2.1 (bid b + 7) = (20, 30) :=
  ⟨(h.2.1 b hp).2.2.2.2.1, (h.2.1 b hp).2.2.2.2.2.1, (h.2.1 b hp).2.2.2.2.2.2.1, (h.2.1 b hp).2.2.2.2.2.2.2.1, (h.2.1 b hp).2.2.2.2.2.2.2.2.1, (h.2.1 b hp).2.2.2.2.2.2.2.2.2.1, (h.2.1 b hp).2.2.2.2.2.2.2.2.2.2.1⟩
theorem BdK.r (h : BdK K nb bid) (hp : b < nb) : K.2.2 (bid b) 1 = some (bid b + 1) ∧ K.2.2 (bid b) 2 = some (bid b + 2) ∧ K.2.2 (bid b) 3 = some (bid b + 3) ∧ K.2.2 (bid b) 4 = some (bid b + 4) ∧ K.2.2 (bid b) 6 = some (bid b + 5) ∧ K.2.2 (bid b) 7 = some (bid b + 6) ∧ K.2.2 (bid b) 8 = some (bid b + 7) :=
  (h.2.1 b hp).2.2.2.2.2.2.2.2.2.2.2
end BD
section C12
variable {n0 d : Nat} {K : z_K} {I : z_I} {L : z_L} {Q : z_q} {np nb : Nat} {pid bid pts : Nat → Nat}
theorem isPt_of {p k : Int32} (hnp : np ≤ 16) (h : isPt np pts p k) : ∃ i j, p = nI i ∧ k = nI j ∧ i < np ∧ j < pts i := by
  obtain ⟨h1, h2, h3, h4⟩ := h
  obtain ⟨i, rfl, hi, ei⟩ := q_of h1
  obtain ⟨j, rfl, hj, ej⟩ := q_of h3
  refine ⟨i, j, rfl, rfl, by omega, ?_⟩
  rw [ei] at h4
  simp at h4
  omega
theorem isPt_nI {i j : Nat} (hnp : np ≤ 16) (hi : i < np) (hj : j < pts i) (hp : pts i ≤ 10) : isPt np pts (nI i) (nI j) := by
  unfold isPt
  rw [q_nI (by omega), q_nI (by omega)]
  simp
  omega
theorem c12_pieceOf_t {i : Nat} (hC : CLay K) (hP : PcK K np pid) (hn : I 0 8 = nI np) (hi : i < np) (h : Q (some (zr n0 (some (pid i)))) I L) : RM0 n0 xX12_pieceOf d [.ref (n0 + 0), .int (nI i)] K I L Q := by
  have := hP.n
  refine wp_X12_pieceOf hC (iq (nI_pos (by omega)) (ip (by rw [hn]; exact nI_lt hi (by omega)) ⟨q_inn (by omega) (by omega), pid i, ?_, h⟩))
  rw [q_cl (by omega)]; exact hP.at4 hi
theorem c12_pieceOf_f {p : Int32} (hC : CLay K) (hP : PcK K np pid) (hn : I 0 8 = nI np) (hi : ¬ (0 ≤ p.toInt ∧ p.toInt < np)) (h : Q (some (zr n0 none)) I L) : RM0 n0 xX12_pieceOf d [.ref (n0 + 0), .int p] K I L Q := by
  have hnn := hP.n
  refine wp_X12_pieceOf hC ?_
  by_cases g : p < 0
  · exact ip g h
  · refine iq g (iq (fun q => ?_) h)
    have g' : ¬ p.toInt < 0 := fun z => g (q_lt.mpr z)
    rw [hn] at q
    have := q_lt.mp q
    rw [q_nI (by omega)] at this
    omega
theorem c12_bodyOf_t {i : Nat} (hC : CLay K) (hP : BdK K nb bid) (hn : I 0 4 = nI nb) (hi : i < nb) (h : Q (some (zr n0 (some (bid i)))) I L) : RM0 n0 xX12_bodyOf d [.ref (n0 + 0), .int (nI i)] K I L Q := by
  have := hP.n
  refine wp_X12_bodyOf hC (iq (nI_pos (by omega)) (ip (by rw [hn]; exact nI_lt hi (by omega)) ⟨q_inn (by omega) (by omega), bid i, ?_, h⟩))
  rw [q_cl (by omega)]; exact hP.at3 hi
theorem c12_bodyOf_f {p : Int32} (hC : CLay K) (hP : BdK K nb bid) (hn : I 0 4 = nI nb) (hi : ¬ (0 ≤ p.toInt ∧ p.toInt < nb)) (h : Q (some (zr n0 none)) I L) : RM0 n0 xX12_bodyOf d [.ref (n0 + 0), .int p] K I L Q := by
  have hnn := hP.n
  refine wp_X12_bodyOf hC ?_
  by_cases g : p < 0
  · exact ip g h
  · refine iq g (iq (fun q => ?_) h)
    have g' : ¬ p.toInt < 0 := fun z => g (q_lt.mpr z)
    rw [hn] at q
    have := q_lt.mp q
    rw [q_nI (by omega)] at this
    omega
theorem c5_has {o : Nat} {n : Nat} {k : Int32} (ho : o < K.1) (hc : (K.2.1 o).1 = 5) (hn : I o 2 = nI n) (hb : n ≤ 10) (h : Q (some (.int (bI (0 ≤ k.toInt ∧ k.toInt < n)))) I L) : RM0 n0 xX5_has d [.ref (n0 + o), .int k] K I L Q := by
  refine wp_X5_has ⟨fun _ => ho, fun _ => hc, ?_⟩
  have e : (if k < 0 then (0 : Int32) else if k < (I o 2) then 1 else 0) = bI (0 ≤ k.toInt ∧ k.toInt < n) := by
    unfold bI
    rw [hn]
    simp only [q_lt, q_nI (show n < 2 ^ 31 by omega)]
    show (if k.toInt < 0 then (0 : Int32) else if k.toInt < n then 1 else 0) = _
    split
    · rw [if_neg (by omega)]
    · split
      · rw [if_pos (by omega)]
      · rw [if_neg (by omega)]
  rw [e]; exact h
theorem c12_pieceWith_t {i j : Nat} (hC : CLay K) (hP : PcK K np pid) (hn : I 0 8 = nI np) (hpt : ∀ i, i < np → I (pid i) 2 = nI (pts i) ∧ pts i ≤ 10) (hi : i < np) (hj : j < pts i) (h : Q (some (zr n0 (some (pid i)))) I L) : RM0 n0 xX12_pieceWith (d + 1) [.ref (n0 + 0), .int (nI i), .int (nI j)] K I L Q := by
  obtain ⟨e1, e2⟩ := hpt i hi
  have := hP.lt hi
  refine wp_X12_pieceWith hC (c12_pieceOf_t hC hP hn hi ⟨_, rfl, oss ⟨by omega, hP.cls hi, c5_has (by omega) (hP.cls hi) e1 e2 ⟨_, rfl, ?_⟩⟩⟩)
  rw [bI_t (by rw [q_nI (by omega)]; omega)]
  exact iq (by decide) h
theorem c12_pieceWith_f {p k : Int32} (hC : CLay K) (hP : PcK K np pid) (hn : I 0 8 = nI np) (hpt : ∀ i, i < np → I (pid i) 2 = nI (pts i) ∧ pts i ≤ 10) (hi : ¬ isPt np pts p k) (h : Q (some (zr n0 none)) I L) : RM0 n0 xX12_pieceWith (d + 1) [.ref (n0 + 0), .int p, .int k] K I L Q := by
  by_cases g : 0 ≤ p.toInt ∧ p.toInt < np
  · have hnn := hP.n
    obtain ⟨i, rfl, hi1, ei⟩ := q_of g.1
    have hlt : i < np := by omega
    obtain ⟨e1, e2⟩ := hpt i hlt
    have := hP.lt hlt
    refine wp_X12_pieceWith hC (c12_pieceOf_t hC hP hn hlt ⟨_, rfl, oss ⟨by omega, hP.cls hlt, c5_has (by omega) (hP.cls hlt) e1 e2 ⟨_, rfl, ?_⟩⟩⟩)
    rw [bI_f (fun q => hi ⟨g.1, g.2, q.1, by rw [ei]; simpa using q.2⟩)]
    exact ip rfl h
  · exact wp_X12_pieceWith hC (c12_pieceOf_f hC hP hn g ⟨_, rfl, osn h⟩)
theorem c13_isPoint_t {i j : Nat} (hM : MLay K) (hn : I 59 9 = nI np) (hb : np ≤ 16) (hp : ∀ i, i < np → I 67 i = nI (pts i) ∧ pts i ≤ 10) (hi : i < np) (hj : j < pts i) (h : Q (some (.int 1)) I L) : RM0 n0 xX13_isPoint (d + 2) [.ref (n0 + 59), .int (nI i), .int (nI j)] K I L Q :=
  c13_isPoint hM hn hb hp (fun _ => h) (fun q => absurd (isPt_nI hb hi hj (hp i hi).2) q)
theorem c13_isPoint_f {p k : Int32} (hM : MLay K) (hn : I 59 9 = nI np) (hb : np ≤ 16) (hp : ∀ i, i < np → I 67 i = nI (pts i) ∧ pts i ≤ 10) (hi : ¬ isPt np pts p k) (h : Q (some (.int 0)) I L) : RM0 n0 xX13_isPoint (d + 2) [.ref (n0 + 59), .int p, .int k] K I L Q :=
  c13_isPoint hM hn hb hp (fun q => absurd q hi) (fun _ => h)
end C12
