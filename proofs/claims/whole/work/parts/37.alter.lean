/-! tables with a key, and the moves of points for a body -/
def Tb {κ V : Type} (n : Nat) (key : Nat → κ) (val : Nat → V) (A : κ → Option V) : Prop := (∀ r, r < n → A (key r) = some (val r)) ∧ (∀ k v, A k = some v → ∃ r, r < n ∧ key r = k) ∧ ∀ r s, r < n → s < n → key r = key s → r = s
section TB
variable {κ V : Type} {n : Nat} {key key' : Nat → κ} {val val' : Nat → V} {A : κ → Option V}
theorem Tb.set [DecidableEq κ] {r0 : Nat} {v : V} (h : Tb n key val A) (h0 : r0 < n) (hk : ∀ r, r < n → key' r = key r) (hv0 : val' r0 = v) (hv : ∀ r, r < n → r ≠ r0 → val' r = val r) : Tb n key' val' (fun k => if k = key r0 then some v else A k) := by
  refine ⟨fun r hr => ?_, fun k w hw => ?_, fun r s hr hs e => h.2.2 r s hr hs (by rw [← hk r hr, ← hk s hs]; exact e)⟩
  · show (if key' r = key r0 then some v else A (key' r)) = some (val' r)
    rw [hk r hr]
    by_cases e : key r = key r0
    · rw [if_pos e]
      have := h.2.2 r r0 hr h0 e
      rw [this, hv0]
    · rw [if_neg e, h.1 r hr, hv r hr (fun z => e (by rw [z]))]
  · have hw' : (if k = key r0 then some v else A k) = some w := hw
    by_cases e : k = key r0
    · exact ⟨r0, h0, by rw [hk r0 h0, e]⟩
    · rw [if_neg e] at hw'
      obtain ⟨r, hr, e2⟩ := h.2.1 k w hw'
      exact ⟨r, hr, by rw [hk r hr, e2]⟩
theorem Tb.app [DecidableEq κ] {k0 : κ} {v : V} (h : Tb n key val A) (h0 : ∀ r, r < n → key r ≠ k0) (hk : ∀ r, r < n → key' r = key r) (hk0 : key' n = k0) (hv0 : val' n = v) (hv : ∀ r, r < n → val' r = val r) : Tb (n + 1) key' val' (fun k => if k = k0 then some v else A k) := by
  refine ⟨fun r hr => ?_, fun k w hw => ?_, fun r s hr hs e => ?_⟩
  · show (if key' r = k0 then some v else A (key' r)) = some (val' r)
    by_cases e : r = n
    · rw [e, if_pos hk0, hv0]
    · have hr' : r < n := by omega
      rw [hk r hr', if_neg (h0 r hr'), h.1 r hr', hv r hr']
  · have hw' : (if k = k0 then some v else A k) = some w := hw
    by_cases e : k = k0
    · exact ⟨n, by omega, by rw [hk0, e]⟩
    · rw [if_neg e] at hw'
      obtain ⟨r, hr, e2⟩ := h.2.1 k w hw'
      exact ⟨r, by omega, by rw [hk r hr, e2]⟩
  · by_cases er : r = n
    · by_cases es : s = n
      · omega
      · subst er
        rw [hk0, hk s (by omega)] at e
        exact absurd e.symm (h0 s (by omega))
    · by_cases es : s = n
      · subst es
        rw [hk0, hk r (by omega)] at e
        exact absurd e (h0 r (by omega))
      · rw [hk r (by omega), hk s (by omega)] at e
        exact h.2.2 r s (by omega) (by omega) e
theorem Tb.cong (h : Tb n key val A) (hk : ∀ r, r < n → key' r = key r) (hv : ∀ r, r < n → val' r = val r) : Tb n key' val' A :=
  ⟨fun r hr => by rw [hk r hr, hv r hr]; exact h.1 r hr, fun k v hw => by obtain ⟨r, hr, e⟩ := h.2.1 k v hw; exact ⟨r, hr, by rw [hk r hr, e]⟩, fun r s hr hs e => h.2.2 r s hr hs (by rw [← hk r hr, ← hk s hs]; exact e)⟩
theorem Tb.eqv {B : κ → Option V} (h : Tb n key val A) (e : ∀ k, B k = A k) : Tb n key val B := by
  have : B = A := funext e
  rw [this]; exact h
theorem Tb.no (h : Tb n key val A) {k : κ} (hn : A k = none) {r : Nat} (hr : r < n) : key r ≠ k := fun e => by have := h.1 r hr; rw [e, hn] at this; cases this
theorem Tb.nk (h : Tb n key val A) {k : κ} (hn : ∀ r, r < n → key r ≠ k) : A k = none := by
  cases e : A k with
  | none => rfl
  | some v => obtain ⟨r, hr, e2⟩ := h.2.1 k v e; exact absurd e2 (hn r hr)
end TB
/-- all cells but those of S are as they were -/
def Fz (S : Nat → Nat → Prop) (I I' : z_I) : Prop := ∀ a j, ¬ S a j → I' a j = I a j
theorem BdK.dis {K : z_K} {nb : Nat} {bid : Nat → Nat} (h : BdK K nb bid) {i j a b : Nat} (hi : i < nb) (hj : j < nb) (hn : i ≠ j) (ha : a ≤ 7) (hb : b ≤ 7) : bid i + a ≠ bid j + b := by
  have key : ∀ x y, x < nb → y < nb → ∀ t, 1 ≤ t → t ≤ 7 → bid x ≠ bid y + t := by
    intro x y hx hy t h1 h7 e
    have c := h.cls hx
    have s := h.s hy
    rw [e] at c
    have : t = 1 ∨ t = 2 ∨ t = 3 ∨ t = 4 ∨ t = 5 ∨ t = 6 ∨ t = 7 := by omega
    rcases this with q | q | q | q | q | q | q <;> subst q
    · rw [s.1] at c; cases c
    · rw [s.2.1] at c; cases c
    · rw [s.2.2.1] at c; cases c
    · rw [s.2.2.2.1] at c; cases c
    · rw [s.2.2.2.2.1] at c; cases c
    · rw [s.2.2.2.2.2.1] at c; cases c
    · rw [s.2.2.2.2.2.2] at c; cases c
  intro e
  by_cases h1 : a < b
  · exact key i j hi hj (b - a) (by omega) (by omega) (by omega)
  · by_cases h2 : b < a
    · exact key j i hj hi (a - b) (by omega) (by omega) (by omega)
    · exact hn (h.inj hi hj (by omega))
def AltI (I : z_I) (nb na : Nat) (bid m : Nat → Nat) (A : Int32 → Int32 → Option (Int32 × Int32)) : Prop :=
  I 0 5 = nI na ∧ I 59 49 = nI na ∧ na ≤ 40 ∧ Tb na (fun r => (I 89 r, I 88 r)) (fun r => (I 90 r, I 91 r)) (fun k => A k.1 k.2) ∧ (∀ i, i < nb → m i ≤ na ∧ I (bid i) 5 = nI (m i) ∧ Tb (m i) (fun k => I (bid i + 2) k) (fun k => (I (bid i + 3) k, I (bid i + 4) k)) (A (nI i))) ∧ ∀ b k v, A b k = some v → ∃ i, i < nb ∧ b = nI i
def altS (o : Nat) (a j : Nat) : Prop := (a = 0 ∧ j = 5) ∨ (a = 59 ∧ j = 49) ∨ (88 ≤ a ∧ a ≤ 91) ∨ (a = o ∧ j = 5) ∨ (o + 2 ≤ a ∧ a ≤ o + 4)
section ALT
variable {n0 d : Nat} {K : z_K} {I : z_I} {L : z_L} {Q : z_q} {np nb na : Nat} {pid pts bid m : Nat → Nat} {A : Int32 → Int32 → Option (Int32 × Int32)} {P : z_I → z_L → Prop}
theorem c0_spot_l {o n : Nat} {key : Int32} {rc rs : Nat} (ho : o + 2 < K.1) (hc : (K.2.1 o).1 = 0) (hp : K.2.2 o 2 = some (o + 2)) (hs : K.2.1 (o + 2) = (20, 40)) (hn : I o 5 = nI n) (h40 : n ≤ 40)
    (hy : ∀ k, k < n → I (o + 2) k = key → Q (some (.int (nI k))) I L) (hz : (∀ k, k < n → I (o + 2) k ≠ key) → Q (some (.int (nI n))) I L) :
    ∀ w j, j + w = n → (∀ k, k < j → I (o + 2) k ≠ key) → Z n0 xX0_alteredSpot d rc rs 10 [(0, .ref (n0 + o)), (3, .int key), (4, .int (nI j))] [] K I L (z_q0 K Q) := by
  intro w
  induction w with
  | zero =>
    intro j hj hb
    refine wp_X0_alteredSpot_10 ⟨by omega, hc, ?_⟩
    rw [hn]
    refine iq (fun z => ?_) (hz (fun k hk => hb k (by omega)))
    have := q_lt.mp z
    rw [q_nI (by omega), q_nI (by omega)] at this
    omega
  | succ w ih =>
    intro j hj hb
    refine wp_X0_alteredSpot_10 ⟨by omega, hc, ?_⟩
    rw [hn]
    refine ip (nI_lt (by omega) (by omega)) ⟨o + 2, hp, 40, by omega, hs, q_inn (by omega) (by omega), ?_⟩
    rw [q_cl (by omega)]
    by_cases e : I (o + 2) j = key
    · exact ip e (hy j (by omega) e)
    · refine iq e ?_
      rw [← nI_succ]
      exact ih (j + 1) (by omega) (fun k hk => if q : k = j then by rw [q]; exact e else hb k (by omega))
theorem c0_spot {o n : Nat} {p k : Int32} (ho : o + 2 < K.1) (hc : (K.2.1 o).1 = 0) (hp : K.2.2 o 2 = some (o + 2)) (hs : K.2.1 (o + 2) = (20, 40)) (hn : I o 5 = nI n) (h40 : n ≤ 40)
    (hy : ∀ r, r < n → I (o + 2) r = p * 10 + k → Q (some (.int (nI r))) I L) (hz : (∀ r, r < n → I (o + 2) r ≠ p * 10 + k) → Q (some (.int (nI n))) I L) : RM0 n0 xX0_alteredSpot d [.ref (n0 + o), .int p, .int k] K I L Q :=
  wp_X0_alteredSpot (c0_spot_l (Q := Q) ho hc hp hs hn h40 hy hz n 0 (by omega) (fun k hk => absurd hk (by omega)))
theorem lf6 {dx dy : Int32} {R X : Prop} (h6 : 999 < dx ∨ 999 < dy → R) (h : ¬ (999 < dx ∨ 999 < dy) → X) : if 999 < dx then R else if 999 < dy then R else X := by
  by_cases a : 999 < dx
  · exact ip a (h6 (Or.inl a))
  · by_cases b : 999 < dy
    · exact iq a (ip b (h6 (Or.inr b)))
    · exact iq a (iq b (h (fun z => z.elim a b)))
theorem c13_alter_l {p k b dx dy : Int32} {rc rs : Nat} (hM : MLay K) (hn : I 59 49 = nI na) (h40 : na ≤ 40) (h6 : (999 < dx ∨ 999 < dy) → RM0 n0 xX13_refuse d [.ref (n0 + 59), .int (-6)] K I L (fun vv I1 L1 => ∃ r : Int32, vv = some (.int r) ∧ Q (some (.int r)) I1 L1))
    (hy : ¬ (999 < dx ∨ 999 < dy) → ∀ r, r < na → (I 89 r, I 88 r) = (b, 10 * p + k) → Q (some (.int 1)) (zI (zI (zI (zI (zI I 88 r (10 * p + k)) 89 r b) 90 r dx) 91 r dy) 59 49 (nI na)) L)
    (hz : ¬ (999 < dx ∨ 999 < dy) → (∀ r, r < na → (I 89 r, I 88 r) ≠ (b, 10 * p + k)) → if na = 40 then RM0 n0 xX13_refuse d [.ref (n0 + 59), .int (-6)] K I L (fun vv I1 L1 => ∃ r : Int32, vv = some (.int r) ∧ Q (some (.int r)) I1 L1) else Q (some (.int 1)) (zI (zI (zI (zI (zI I 88 na (10 * p + k)) 89 na b) 90 na dx) 91 na dy) 59 49 (nI (na + 1))) L) :
    ∀ w j, j + w = na → (∀ r, r < j → (I 89 r, I 88 r) ≠ (b, 10 * p + k)) → Z n0 xX13_alter (d + 1) rc rs 49 [(0, .ref (n0 + 59)), (1, .int p), (2, .int k), (3, .int b), (4, .int dx), (5, .int dy), (6, .int (nI j))] [] K I L (z_q0 K Q) := by
  intro w
  induction w with
  | zero =>
    intro j hj hb
    refine wp_X13_alter_49 hM ?_
    rw [hn]
    have hjn : j = na := by omega
    subst hjn
    refine iq (fun z => ?_) (lf6 h6 (fun g => ?_))
    · have := q_lt.mp z
      omega
    · have h := hz g hb
      by_cases h4 : j = 40
      · rw [if_pos h4] at h
        exact ip (by rw [h4]; rfl) h
      · rw [if_neg h4] at h
        refine iq (fun z => h4 (by have := q_eq.mp z; rw [q_nI (by omega)] at this; have e2' : (40 : Int32).toInt = 40 := rfl; omega)) ⟨q_inn (by omega) (by omega), ?_⟩
        rw [q_cl (by omega), if_pos rfl, ← nI_succ]
        exact h
  | succ w ih =>
    intro j hj hb
    have nx := ih (j + 1) (by omega)
    refine wp_X13_alter_49 hM ?_
    rw [hn]
    refine ip (nI_lt (by omega) (by omega)) ⟨q_inn (by omega) (by omega), ?_⟩
    rw [q_cl (by omega), ← nI_succ]
    by_cases e1 : I 88 j = 10 * p + k
    · refine ip e1 ?_
      by_cases e2 : I 89 j = b
      · refine ip e2 (lf6 h6 (fun g => iq (fun z => by have := q_eq.mp z; rw [q_nI (by omega)] at this; have e2' : (40 : Int32).toInt = 40 := rfl; omega) ?_))
        rw [if_neg (fun z => by have := q_eq.mp z; rw [q_nI (by omega), q_nI (by omega)] at this; omega), Int32.add_zero]
        exact hy g j (by omega) (by rw [e1, e2])
      · refine iq e2 (nx (fun r hr => ?_))
        by_cases q : r = j
        · rw [q]; intro z; exact e2 (Prod.mk.inj z).1
        · exact hb r (by omega)
    · refine iq e1 (nx (fun r hr => ?_))
      by_cases q : r = j
      · rw [q]; intro z; exact e1 (Prod.mk.inj z).2
      · exact hb r (by omega)
theorem c0_setAltered {o n : Nat} {p k dx dy : Int32} (ho : o + 4 < K.1) (hc : (K.2.1 o).1 = 0) (hp : K.2.2 o 2 = some (o + 2)) (hp3 : K.2.2 o 3 = some (o + 3)) (hp4 : K.2.2 o 4 = some (o + 4)) (hs : K.2.1 (o + 2) = (20, 40)) (hs3 : K.2.1 (o + 3) = (20, 40)) (hs4 : K.2.1 (o + 4) = (20, 40)) (hn : I o 5 = nI n) (h40 : n ≤ 40)
    (hy : ∀ r, r < n → I (o + 2) r = p * 10 + k → Q none (zI (zI (zI I (o + 2) r (p * 10 + k)) (o + 3) r dx) (o + 4) r dy) L)
    (hz : (∀ r, r < n → I (o + 2) r ≠ p * 10 + k) → n < 40 ∧ Q none (zI (zI (zI (zI I o 5 (nI (n + 1))) (o + 2) n (p * 10 + k)) (o + 3) n dx) (o + 4) n dy) L) : RM0 n0 xX0_setAltered (d + 1) [.ref (n0 + o), .int p, .int k, .int dx, .int dy] K I L Q := by
  refine wp_X0_setAltered ⟨by omega, hc, c0_spot (by omega) hc hp hs hn h40 (fun r hr e => ⟨_, rfl, ?_⟩) (fun e => ⟨_, rfl, ?_⟩)⟩
  · rw [hn]
    refine ip (nI_lt (b := 40) (by omega) (by omega)) (iq (fun z => by have := q_eq.mp z; rw [q_nI (by omega), q_nI (by omega)] at this; omega) ⟨_, hp, 40, by omega, hs, q_inn (by omega) (by omega), _, hp3, 40, by omega, hs3, q_inn (by omega) (by omega), _, hp4, 40, by omega, hs4, q_inn (by omega) (by omega), ?_⟩)
    rw [q_cl (by omega)]
    exact hy r hr e
  · obtain ⟨h4, h⟩ := hz e
    rw [hn]
    refine ip (nI_lt (b := 40) (by omega) (by omega)) (ip rfl ⟨_, hp, 40, by omega, hs, q_inn (by omega) (by omega), _, hp3, 40, by omega, hs3, q_inn (by omega) (by omega), _, hp4, 40, by omega, hs4, q_inn (by omega) (by omega), ?_⟩)
    rw [q_cl (by omega), ← nI_succ]
    exact h
theorem AltI.old {b r r' : Nat} {key dx dy : Int32} (hB : BdK K nb bid) (h : AltI I nb na bid m A) (hb : b < nb) (hr : r < m b) (hk : I (bid b + 2) r = key) (hr' : r' < na) (hk' : (I 89 r', I 88 r') = (nI b, key)) :
    ∃ A', AltI (zI (zI (zI (zI (zI (zI (zI (zI I (bid b + 2) r key) (bid b + 3) r dx) (bid b + 4) r dy) 88 r' key) 89 r' (nI b)) 90 r' dx) 91 r' dy) 59 49 (nI na)) nb na bid m A' := by
  have hge := hB.ge hb
  have e1 := (Prod.mk.inj hk').1
  have e2 := (Prod.mk.inj hk').2
  have nbb := hB.n
  refine ⟨fun c k => if c = nI b ∧ k = key then some (dx, dy) else A c k, ?_, ?_, h.2.2.1, ?_, ?_, ?_⟩
  · (repeat (first | rw [zI_s] | rw [zI_d (by omega)])); exact h.1
  · (repeat (first | rw [zI_s] | rw [zI_d (by omega)]))
  · refine (h.2.2.2.1.set hr' (v := (dx, dy)) (fun t ht => ?_) ?_ (fun t ht hne => ?_)).eqv (fun k => ?_)
    · by_cases q : t = r'
      · subst q
        show (_, _) = (_, _)
        (repeat (first | rw [zI_s] | rw [zI_d (by omega)]))
        rw [e1, e2]
      · show (_, _) = (_, _)
        (repeat (first | rw [zI_s] | rw [zI_d (by omega)]))
    · show (_, _) = (_, _)
      (repeat (first | rw [zI_s] | rw [zI_d (by omega)]))
    · show (_, _) = (_, _)
      (repeat (first | rw [zI_s] | rw [zI_d (by omega)]))
    · show (if k.1 = nI b ∧ k.2 = key then some (dx, dy) else A k.1 k.2) = if k = (I 89 r', I 88 r') then some (dx, dy) else A k.1 k.2
      rw [hk']
      by_cases q : k.1 = nI b ∧ k.2 = key
      · rw [if_pos q, if_pos (by rw [← q.1, ← q.2])]
      · rw [if_neg q, if_neg (fun z => q (by rw [z]; exact ⟨rfl, rfl⟩))]
  · intro i hi
    obtain ⟨a1, a2, a3⟩ := h.2.2.2.2.1 i hi
    have hgi := hB.ge hi
    by_cases q : i = b
    · subst q
      refine ⟨a1, by (repeat (first | rw [zI_s] | rw [zI_d (by omega)])); exact a2, (a3.set hr (v := (dx, dy)) (fun t ht => ?_) ?_ (fun t ht hne => ?_)).eqv (fun k => ?_)⟩
      · show zI _ _ _ _ _ _ = _
        by_cases q : t = r
        · subst q
          (repeat (first | rw [zI_s] | rw [zI_d (by omega)]))
          exact hk.symm
        · (repeat (first | rw [zI_s] | rw [zI_d (by omega)]))
      · show (_, _) = (_, _)
        (repeat (first | rw [zI_s] | rw [zI_d (by omega)]))
      · show (_, _) = (_, _)
        (repeat (first | rw [zI_s] | rw [zI_d (by omega)]))
      · show (if nI i = nI i ∧ k = key then some (dx, dy) else A (nI i) k) = if k = I (bid i + 2) r then some (dx, dy) else A (nI i) k
        rw [hk]
        by_cases q : k = key
        · rw [if_pos ⟨rfl, q⟩, if_pos q]
        · rw [if_neg (fun z => q z.2), if_neg q]
    · have dd := fun {x y : Nat} (hx : x ≤ 7) (hy : y ≤ 7) => hB.dis (a := x) (b := y) hi hb q hx hy
      have d0 : bid i ≠ bid b + 2 := dd (x := 0) (y := 2) (by omega) (by omega)
      have d1 : bid i ≠ bid b + 3 := dd (x := 0) (y := 3) (by omega) (by omega)
      have d2 : bid i ≠ bid b + 4 := dd (x := 0) (y := 4) (by omega) (by omega)
      have d3 := dd (x := 2) (y := 2) (by omega) (by omega)
      have d4 := dd (x := 2) (y := 3) (by omega) (by omega)
      have d5 := dd (x := 2) (y := 4) (by omega) (by omega)
      have d6 := dd (x := 3) (y := 2) (by omega) (by omega)
      have d7 := dd (x := 3) (y := 4) (by omega) (by omega)
      have d8 := dd (x := 4) (y := 2) (by omega) (by omega)
      have d9 := dd (x := 4) (y := 3) (by omega) (by omega)
      refine ⟨a1, by (repeat (first | rw [zI_s] | rw [zI_d (by omega)])); exact a2, (a3.cong (fun t ht => ?_) (fun t ht => ?_)).eqv (fun k => ?_)⟩
      · show zI _ _ _ _ _ _ = _
        (repeat (first | rw [zI_s] | rw [zI_d (by omega)]))
      · show (_, _) = (_, _)
        (repeat (first | rw [zI_s] | rw [zI_d (by omega)]))
      · show (if nI i = nI b ∧ k = key then some (dx, dy) else A (nI i) k) = _
        rw [if_neg (fun z => q (by have := q_eq.mp z.1; rw [q_nI (by omega), q_nI (by omega)] at this; omega))]
  · intro c k v hv
    have hv' : (if c = nI b ∧ k = key then some (dx, dy) else A c k) = some v := hv
    by_cases q : c = nI b ∧ k = key
    · exact ⟨b, hb, q.1⟩
    · rw [if_neg q] at hv'
      exact h.2.2.2.2.2 c k v hv'
theorem AltI.new {b : Nat} {key dx dy : Int32} (hB : BdK K nb bid) (h : AltI I nb na bid m A) (hb : b < nb) (h4 : na < 40) (hk : ∀ r, r < m b → I (bid b + 2) r ≠ key) :
    ∃ m' A', AltI (zI (zI (zI (zI (zI (zI (zI (zI (zI (zI I 0 5 (nI (na + 1))) (bid b) 5 (nI (m b + 1))) (bid b + 2) (m b) key) (bid b + 3) (m b) dx) (bid b + 4) (m b) dy) 88 na key) 89 na (nI b)) 90 na dx) 91 na dy) 59 49 (nI (na + 1))) nb (na + 1) bid m' A' := by
  have hge := hB.ge hb
  have nbb := hB.n
  have hA0 : A (nI b) key = none := (h.2.2.2.2.1 b hb).2.2.nk hk
  refine ⟨fun i => if i = b then m b + 1 else m i, fun c k => if c = nI b ∧ k = key then some (dx, dy) else A c k, ?_, ?_, by omega, ?_, ?_, ?_⟩
  · (repeat (first | rw [zI_s] | rw [zI_d (by omega)]))
  · (repeat (first | rw [zI_s] | rw [zI_d (by omega)]))
  · refine (h.2.2.2.1.app (k0 := (nI b, key)) (v := (dx, dy)) (fun t ht => h.2.2.2.1.no hA0 ht) (fun t ht => ?_) ?_ ?_ (fun t ht => ?_)).eqv (fun k => ?_)
    · show (_, _) = (_, _)
      (repeat (first | rw [zI_s] | rw [zI_d (by omega)]))
    · show (_, _) = (_, _)
      (repeat (first | rw [zI_s] | rw [zI_d (by omega)]))
    · show (_, _) = (_, _)
      (repeat (first | rw [zI_s] | rw [zI_d (by omega)]))
    · show (_, _) = (_, _)
      (repeat (first | rw [zI_s] | rw [zI_d (by omega)]))
    · show (if k.1 = nI b ∧ k.2 = key then some (dx, dy) else A k.1 k.2) = if k = (nI b, key) then some (dx, dy) else A k.1 k.2
      by_cases q : k.1 = nI b ∧ k.2 = key
      · rw [if_pos q, if_pos (by rw [← q.1, ← q.2])]
      · rw [if_neg q, if_neg (fun z => q (by rw [z]; exact ⟨rfl, rfl⟩))]
  · intro i hi
    obtain ⟨a1, a2, a3⟩ := h.2.2.2.2.1 i hi
    have hgi := hB.ge hi
    by_cases q : i = b
    · subst q
      show (if i = i then m i + 1 else m i) ≤ _ ∧ _ = nI (if i = i then m i + 1 else m i) ∧ Tb (if i = i then m i + 1 else m i) _ _ _
      rw [if_pos rfl]
      refine ⟨by omega, by (repeat (first | rw [zI_s] | rw [zI_d (by omega)])), (a3.app (k0 := key) (v := (dx, dy)) (fun t ht => hk t ht) (fun t ht => ?_) ?_ ?_ (fun t ht => ?_)).eqv (fun k => ?_)⟩
      · show zI _ _ _ _ _ _ = _
        (repeat (first | rw [zI_s] | rw [zI_d (by omega)]))
      · show zI _ _ _ _ _ _ = _
        (repeat (first | rw [zI_s] | rw [zI_d (by omega)]))
      · show (_, _) = (_, _)
        (repeat (first | rw [zI_s] | rw [zI_d (by omega)]))
      · show (_, _) = (_, _)
        (repeat (first | rw [zI_s] | rw [zI_d (by omega)]))
      · show (if nI i = nI i ∧ k = key then some (dx, dy) else A (nI i) k) = if k = key then some (dx, dy) else A (nI i) k
        by_cases q : k = key
        · rw [if_pos ⟨rfl, q⟩, if_pos q]
        · rw [if_neg (fun z => q z.2), if_neg q]
    · have dd := fun {x y : Nat} (hx : x ≤ 7) (hy : y ≤ 7) => hB.dis (a := x) (b := y) hi hb q hx hy
      have dz : bid i ≠ bid b := dd (x := 0) (y := 0) (by omega) (by omega)
      have d0 : bid i ≠ bid b + 2 := dd (x := 0) (y := 2) (by omega) (by omega)
      have d1 : bid i ≠ bid b + 3 := dd (x := 0) (y := 3) (by omega) (by omega)
      have d2 : bid i ≠ bid b + 4 := dd (x := 0) (y := 4) (by omega) (by omega)
      have d3 := dd (x := 2) (y := 2) (by omega) (by omega)
      have d4 := dd (x := 2) (y := 3) (by omega) (by omega)
      have d5 := dd (x := 2) (y := 4) (by omega) (by omega)
      have d6 := dd (x := 3) (y := 2) (by omega) (by omega)
      have d7 := dd (x := 3) (y := 4) (by omega) (by omega)
      have d8 := dd (x := 4) (y := 2) (by omega) (by omega)
      have d9 := dd (x := 4) (y := 3) (by omega) (by omega)
      have e2 := dd (x := 2) (y := 0) (by omega) (by omega)
      have e3 := dd (x := 3) (y := 0) (by omega) (by omega)
      have e4 := dd (x := 4) (y := 0) (by omega) (by omega)
      show (if i = b then m b + 1 else m i) ≤ _ ∧ _ = nI (if i = b then m b + 1 else m i) ∧ Tb (if i = b then m b + 1 else m i) _ _ _
      rw [if_neg q]
      refine ⟨by omega, by (repeat (first | rw [zI_s] | rw [zI_d (by omega)])); exact a2, (a3.cong (fun t ht => ?_) (fun t ht => ?_)).eqv (fun k => ?_)⟩
      · show zI _ _ _ _ _ _ = _
        (repeat (first | rw [zI_s] | rw [zI_d (by omega)]))
      · show (_, _) = (_, _)
        (repeat (first | rw [zI_s] | rw [zI_d (by omega)]))
      · show (if nI i = nI b ∧ k = key then some (dx, dy) else A (nI i) k) = _
        rw [if_neg (fun z => q (by have := q_eq.mp z.1; rw [q_nI (by omega), q_nI (by omega)] at this; omega))]
  · intro c k v hv
    have hv' : (if c = nI b ∧ k = key then some (dx, dy) else A c k) = some v := hv
    by_cases q : c = nI b ∧ k = key
    · exact ⟨b, hb, q.1⟩
    · rw [if_neg q] at hv'
      exact h.2.2.2.2.2 c k v hv'
theorem c13_alter_ok {i j b : Nat} {dx dy : Int32} (hM : MLay K) (hn : I 59 9 = nI np) (hnp : np ≤ 16) (hp : ∀ i, i < np → I 67 i = nI (pts i) ∧ pts i ≤ 10) (hi : i < np) (hj : j < pts i) (hbn : I 59 6 = nI nb) (hnb : nb ≤ 12) (hb : b < nb)
    (h : if dx < (-999) ∨ dy < (-999) then RM0 n0 xX13_refuse (d + 2) [.ref (n0 + 59), .int (-4)] K I L (fun vv I1 L1 => ∃ r : Int32, vv = some (.int r) ∧ Q (some (.int r)) I1 L1) else Z n0 xX13_alter (d + 3) 0 0 49 [(0, .ref (n0 + 59)), (1, .int (nI i)), (2, .int (nI j)), (3, .int (nI b)), (4, .int dx), (5, .int dy), (6, .int (nI 0))] [] K I L (z_q0 K Q)) :
    RM0 n0 xX13_alter (d + 3) [.ref (n0 + 59), .int (nI i), .int (nI j), .int (nI b), .int dx, .int dy] K I L Q := by
  refine wp_X13_alter hM (c13_isPoint_t hM hn hnp hp hi hj ⟨_, rfl, iq (by decide) (c13_isBody hM hbn (by omega) ⟨_, rfl, ?_⟩)⟩)
  rw [bI_t (by rw [q_nI (by omega)]; omega)]
  refine iq (by decide) ?_
  by_cases g1 : dx < (-999)
  · rw [if_pos (Or.inl g1)] at h
    exact ip g1 h
  · by_cases g2 : dy < (-999)
    · rw [if_pos (Or.inr g2)] at h
      exact iq g1 (ip g2 h)
    · rw [if_neg (fun z => z.elim g1 g2)] at h
      exact iq g1 (iq g2 h)
theorem c13_alter_bad {p k b dx dy : Int32} (hM : MLay K) (hn : I 59 9 = nI np) (hnp : np ≤ 16) (hp : ∀ i, i < np → I 67 i = nI (pts i) ∧ pts i ≤ 10) (hbn : I 59 6 = nI nb) (hnb : nb ≤ 12) (hbad : ¬ (isPt np pts p k ∧ (0 ≤ b.toInt ∧ b.toInt < nb)))
    (h : RM0 n0 xX13_refuse (d + 2) [.ref (n0 + 59), .int (-1)] K I L (fun vv I1 L1 => ∃ r : Int32, vv = some (.int r) ∧ Q (some (.int r)) I1 L1)) :
    RM0 n0 xX13_alter (d + 3) [.ref (n0 + 59), .int p, .int k, .int b, .int dx, .int dy] K I L Q := by
  by_cases g : isPt np pts p k
  · obtain ⟨i, j, rfl, rfl, hi, hj⟩ := isPt_of hnp g
    refine wp_X13_alter hM (c13_isPoint_t hM hn hnp hp hi hj ⟨_, rfl, iq (by decide) (c13_isBody hM hbn (by omega) ⟨_, rfl, ?_⟩)⟩)
    rw [bI_f (fun z => hbad ⟨g, z⟩)]
    exact ip rfl h
  · exact wp_X13_alter hM (c13_isPoint_f hM hn hnp hp g ⟨_, rfl, ip rfl h⟩)
theorem op_alter {p0 p1 p2 p3 p4 : Int32} (hC : CLay K) (hM : MLay K) (hP : PcK K np pid) (hN : PcN I np pid pts) (hB : BdK K nb bid) (hBN : BdN I nb) (hA : AltI I nb na bid m A) (hr : ∀ k, 1 ≤ k → k ≤ 7 → P (rfI I k) L)
    (hs : ∀ b, b < nb → ∀ I' na' m' A', AltI I' nb na' bid m' A' → Fz (altS (bid b)) I I' → P I' L) : Op0 n0 xX12_alter xX13_alter (d + 3) (d + 3) [.int p0, .int p1, .int p2, .int p3, .int p4] K I L P := by
  have hnp := hP.n
  have hnb := hB.n
  by_cases g1 : isPt np pts p0 p1
  · by_cases g2 : 0 ≤ p2.toInt ∧ p2.toInt < nb
    · obtain ⟨i, j, rfl, rfl, hi, hj⟩ := isPt_of hnp g1
      obtain ⟨b, rfl, hb1, eb⟩ := q_of g2.1
      have hb : b < nb := by omega
      have hlt := hB.lt hb
      have hge := hB.ge hb
      have hs7 := hB.s hb
      have hr7 := hB.r hb
      obtain ⟨m1, m2, m3⟩ := hA.2.2.2.2.1 b hb
      have h40 := hA.2.2.1
      have kc : (nI i * 10 + nI j : Int32) = 10 * nI i + nI j := by rw [Int32.mul_comm]
      refine wp_X12_alter hC (c12_pieceWith_t hC hP hN.1 hN.c hi hj ⟨_, rfl, c12_bodyOf_t hC hB hBN.1 hb ⟨_, rfl, oss (oss (c12_bothOutside hC ⟨_, rfl, ?_⟩))⟩⟩)
      have ref : ∀ {I1 : z_I} {L1 : z_L} {Q : z_q}, RE I1 I → _ → _ := fun {I1 L1 Q} hre h => c13_alter_ok (n0 := n0) (d := d) (K := K) (I := I1) (L := L1) (Q := Q) (dx := p3) (dy := p4) hM (hN.n' hre) hnp (hN.m' hre) hi hj (hBN.m' hre) hnb hb h
      rcases bb_cases p3 p4 (-999) 999 with ⟨e, g⟩ | ⟨e, ga, gb, g⟩ | ⟨e, ga, gb, gc, gd⟩
      · rw [e]
        exact iq (by decide) (op_rf 4 hC (by omega) (by omega) rfl (ref re_rf (ip g (op_rr 4 hM (by omega) rfl (hr 4 (by omega) (by omega))))))
      · rw [e]
        refine iq (by decide) (op_rf 6 hC (by omega) (by omega) rfl (ref re_rf (iq (fun z => z.elim ga gb) (c13_alter_l (na := na) hM (by rw [re_rf 59 (by omega) (by omega)]; exact hA.2.1) h40 (fun _ => op_rr 6 hM (by omega) rfl (hr 6 (by omega) (by omega))) (fun z => absurd g z) (fun z => absurd g z) na 0 (by omega) (fun r hr => absurd hr (by omega))))))
      · rw [e]
        have ng : ¬ (999 < p3 ∨ 999 < p4) := fun z => z.elim gc gd
        by_cases ex : ∃ r, r < m b ∧ I (bid b + 2) r = nI i * 10 + nI j
        · obtain ⟨r0, hr0, er0⟩ := ex
          have hsm : ∃ v, A (nI b) (nI i * 10 + nI j) = some v := ⟨_, by rw [← er0]; exact m3.1 r0 hr0⟩
          refine ip rfl ⟨by omega, hB.cls hb, wp_X0_isAltered ⟨by omega, hB.cls hb, c0_spot (by omega) (hB.cls hb) hr7.2.1 hs7.2.1 m2 (by omega) (fun r hr2 er => ⟨_, rfl, _, rfl, ?_⟩) (fun z => absurd er0 (z r0 hr0))⟩⟩
          rw [m2, if_pos (nI_lt hr2 (by omega))]
          refine iq (by decide) (iq (by decide) (c0_setAltered (by omega) (hB.cls hb) hr7.2.1 hr7.2.2.1 hr7.2.2.2.1 hs7.2.1 hs7.2.2.1 hs7.2.2.2.1 m2 (by omega) (fun r hr2 er => ⟨rfl, _, rfl, ?_⟩) (fun z => absurd er0 (z r0 hr0))))
          have hre : RE (zI (zI (zI I (bid b + 2) r (nI i * 10 + nI j)) (bid b + 3) r p3) (bid b + 4) r p4) I := ((RE.rf.z (Or.inr (by omega))).z (Or.inr (by omega))).z (Or.inr (by omega))
          have h89 : ∀ t, zI (zI (zI I (bid b + 2) r (nI i * 10 + nI j)) (bid b + 3) r p3) (bid b + 4) r p4 89 t = I 89 t := fun t => by rw [hre 89 (by omega) (by omega)]
          have h88 : ∀ t, zI (zI (zI I (bid b + 2) r (nI i * 10 + nI j)) (bid b + 3) r p3) (bid b + 4) r p4 88 t = I 88 t := fun t => by rw [hre 88 (by omega) (by omega)]
          refine ref hre (iq (fun z => z.elim ga gb) (c13_alter_l (na := na) hM (by rw [hre 59 (by omega) (by omega)]; exact hA.2.1) h40 (fun z => absurd z ng) (fun _ r' hr' e' => ⟨rfl, ?_⟩) (fun _ z => ?_) na 0 (by omega) (fun r hr => absurd hr (by omega))))
          · exfalso
            obtain ⟨v, hv⟩ := hsm
            obtain ⟨r', hr', e'⟩ := hA.2.2.2.1.2.1 (nI b, nI i * 10 + nI j) v hv
            refine z r' hr' ?_
            rw [h89, h88, ← kc]
            exact e'
          · rw [h89, h88, ← kc] at e'
            rw [← kc]
            obtain ⟨A', hA'⟩ := hA.old hB hb hr2 er hr' e' (dx := p3) (dy := p4)
            refine hs b hb _ _ _ _ hA' (fun a j ha => ?_)
            unfold altS at ha
            (repeat (first | rw [zI_s] | rw [zI_d (by omega)]))
        · have nx : ∀ r, r < m b → I (bid b + 2) r ≠ nI i * 10 + nI j := fun r hr e => ex ⟨r, hr, e⟩
          have hA0 : A (nI b) (nI i * 10 + nI j) = none := m3.nk nx
          refine ip rfl ⟨by omega, hB.cls hb, wp_X0_isAltered ⟨by omega, hB.cls hb, c0_spot (by omega) (hB.cls hb) hr7.2.1 hs7.2.1 m2 (by omega) (fun r hr2 er => absurd er (nx r hr2)) (fun _ => ⟨_, rfl, _, rfl, ?_⟩)⟩⟩
          have e0 : (if nI (m b) < nI (m b) then (1 : Int32) else 0) = 0 := if_neg (fun z => by have := q_lt.mp z; omega)
          rw [m2, e0, hA.1]
          refine ip rfl ?_
          by_cases h5 : na < 40
          · refine ip (nI_lt (b := 40) h5 (by omega)) (ip rfl ?_)
            rw [← nI_succ]
            refine c0_setAltered (n := m b) (by omega) (hB.cls hb) hr7.2.1 hr7.2.2.1 hr7.2.2.2.1 hs7.2.1 hs7.2.2.1 hs7.2.2.2.1 (by (repeat (first | rw [zI_s] | rw [zI_d (by omega)])); exact m2) (by omega) (fun r hr2 er => ?_) (fun _ => ⟨by omega, rfl, _, rfl, ?_⟩)
            · exfalso
              refine nx r hr2 ?_
              rw [← er]
              (repeat (first | rw [zI_s] | rw [zI_d (by omega)]))
            have hre : RE (zI (zI (zI (zI (zI I 0 5 (nI (na + 1))) (bid b) 5 (nI (m b + 1))) (bid b + 2) (m b) (nI i * 10 + nI j)) (bid b + 3) (m b) p3) (bid b + 4) (m b) p4) I := ((((RE.rf.z (Or.inl (by omega))).z (Or.inr (by omega))).z (Or.inr (by omega))).z (Or.inr (by omega))).z (Or.inr (by omega))
            refine ref hre (iq (fun z => z.elim ga gb) (c13_alter_l (na := na) hM (by rw [hre 59 (by omega) (by omega)]; exact hA.2.1) h40 (fun z => absurd z ng) (fun _ r' hr' e' => ?_) (fun _ z => ?_) na 0 (by omega) (fun r hr => absurd hr (by omega))))
            · exfalso
              rw [hre 89 (by omega) (by omega), hre 88 (by omega) (by omega), ← kc] at e'
              exact hA.2.2.2.1.no (k := (nI b, nI i * 10 + nI j)) hA0 hr' e'
            · rw [if_neg (by omega), ← kc]
              refine ⟨rfl, ?_⟩
              obtain ⟨m', A', hA'⟩ := hA.new hB hb h5 nx (dx := p3) (dy := p4)
              refine hs b hb _ _ _ _ hA' (fun a j ha => ?_)
              unfold altS at ha
              (repeat (first | rw [zI_s] | rw [zI_d (by omega)]))
          · refine iq (fun z => by have := q_lt.mp z; rw [q_nI (by omega)] at this; have e2' : (40 : Int32).toInt = 40 := rfl; omega) (op_rf 6 hC (by omega) (by omega) rfl (ref re_rf (iq (fun z => z.elim ga gb) (c13_alter_l (na := na) hM (by rw [re_rf 59 (by omega) (by omega)]; exact hA.2.1) h40 (fun z => absurd z ng) (fun _ r' hr' e' => ?_) (fun _ z => ip (by omega) (op_rr 6 hM (by omega) rfl (hr 6 (by omega) (by omega)))) na 0 (by omega) (fun r hr => absurd hr (by omega))))))
            exfalso
            rw [re_rf 89 (by omega) (by omega), re_rf 88 (by omega) (by omega), ← kc] at e'
            exact hA.2.2.2.1.no (k := (nI b, nI i * 10 + nI j)) hA0 hr' e'
    · obtain ⟨i, j, rfl, rfl, hi, hj⟩ := isPt_of hnp g1
      exact wp_X12_alter hC (c12_pieceWith_t hC hP hN.1 hN.c hi hj ⟨_, rfl, c12_bodyOf_f hC hB hBN.1 g2 ⟨_, rfl, oss (osn (op_rf 1 hC (by omega) (by omega) rfl (c13_alter_bad hM (hN.n' re_rf) hnp (hN.m' re_rf) (hBN.m' re_rf) hnb (fun z => g2 z.2) (op_rr 1 hM (by omega) rfl (hr 1 (by omega) (by omega))))))⟩⟩)
  · have bad : OpR n0 xX13_alter (d + 3) [.int p0, .int p1, .int p2, .int p3, .int p4] K (zI I 1 1 (I 1 1 + 1)) L P (-1) := c13_alter_bad hM (hN.n' re_rf) hnp (hN.m' re_rf) (hBN.m' re_rf) hnb (fun z => g1 z.1) (op_rr 1 hM (by omega) rfl (hr 1 (by omega) (by omega)))
    by_cases g2 : 0 ≤ p2.toInt ∧ p2.toInt < nb
    · obtain ⟨b, rfl, hb1, eb⟩ := q_of g2.1
      exact wp_X12_alter hC (c12_pieceWith_f hC hP hN.1 hN.c g1 ⟨_, rfl, c12_bodyOf_t hC hB hBN.1 (by omega) ⟨_, rfl, osn (op_rf 1 hC (by omega) (by omega) rfl bad)⟩⟩)
    · exact wp_X12_alter hC (c12_pieceWith_f hC hP hN.1 hN.c g1 ⟨_, rfl, c12_bodyOf_f hC hB hBN.1 g2 ⟨_, rfl, osn (op_rf 1 hC (by omega) (by omega) rfl bad)⟩⟩)
end ALT
