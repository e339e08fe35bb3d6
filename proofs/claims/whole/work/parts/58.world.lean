/-! what a drawing may change, and what it reads -/
def KD (K K' : z_K) : Prop := K'.1 = K.1 ∧ K'.2.1 = K.2.1 ∧ ∀ a j, ¬ ((a = 8 ∧ j = 2) ∨ a = 15) → K'.2.2 a j = K.2.2 a j
/-- cells that hold nothing from one call to the next -/
def gS (K : z_K) (a j : Nat) : Prop :=
  (a = 5 ∧ 2 ≤ j) ∨ a = 7 ∨ a = 8 ∨ (9 ≤ a ∧ a ≤ 14) ∨ (17 ≤ a ∧ a ≤ 20)
  ∨ (a = 59 ∧ ((28 ≤ j ∧ j ≤ 34) ∨ j = 38 ∨ j = 39 ∨ j = 41 ∨ (43 ≤ j ∧ j ≤ 47) ∨ j = 56 ∨ j = 61 ∨ j = 75 ∨ j = 76 ∨ j = 84 ∨ j = 85 ∨ j = 88)) ∨ (82 ≤ a ∧ a ≤ 84) ∨ a = 86 ∨ a = 87 ∨ (92 ≤ a ∧ a ≤ 97) ∨ (114 ≤ a ∧ a ≤ 116)
  ∨ (152 ≤ a ∧ (K.2.1 a).1 = 8 ∧ 12 ≤ j)
section WLD
variable {K K' K2 : z_K} {I I' : z_I} {np nr nb na : Nat} {pid pts rid rp rk ln cx cy bid m : Nat → Nat} {par : Nat → Option Nat} {X Y : Nat → List Int32} {A : Int32 → Int32 → Option (Int32 × Int32)} {t : Nat}
theorem KD.rf : KD K K := ⟨rfl, rfl, fun _ _ _ => rfl⟩
theorem KD.trans (h : KD K K') (h2 : KD K' K2) : KD K K2 := ⟨h2.1.trans h.1, h2.2.1.trans h.2.1, fun a j n => (h2.2.2 a j n).trans (h.2.2 a j n)⟩
theorem KD.hi (h : KD K K') {a j : Nat} (ha : 152 ≤ a) : K'.2.2 a j = K.2.2 a j := h.2.2 a j (by omega)
theorem KD.z8 {v : Option Nat} : KD K (zR K 8 2 v) := ⟨rfl, rfl, fun a j n => by
  by_cases e : a = 8
  · subst e; exact zR_o (fun z => n (Or.inl ⟨rfl, z⟩))
  · rw [zR_ne e]⟩
theorem KD.z15 {v : Option Nat} {i : Nat} : KD K (zR K 15 i v) := ⟨rfl, rfl, fun a j n => by rw [zR_ne (fun z => n (Or.inr z))]⟩
theorem gS_k (h : KD K K') : gS K' = gS K := by
  funext a j; unfold gS; rw [h.2.1]
theorem gS_hi {a j : Nat} (ha : 152 ≤ a) (ht : (K.2.1 a).1 ≠ 8) : ¬ gS K a j := by unfold gS; omega
/-- these, and the counts of the refusals -/
def gT (K : z_K) (a j : Nat) : Prop := gS K a j ∨ a = 1 ∨ a = 75 ∨ (a = 25 ∧ j = 12) ∨ (a = 59 ∧ j = 106) ∨ (a = 25 ∧ j = 10) ∨ (30 ≤ a ∧ a ≤ 34) ∨ (36 ≤ a ∧ a ≤ 50) ∨ (a = 52 ∧ j = 7) ∨ (56 ≤ a ∧ a ≤ 58) ∨ (119 ≤ a ∧ a ≤ 131) ∨ a = 150 ∨ a = 151
/-- scratch, that of the marker and the season too -/
def gX (K : z_K) (a j : Nat) : Prop := gS K a j ∨ (a = 25 ∧ j = 10) ∨ (30 ≤ a ∧ a ≤ 34) ∨ (36 ≤ a ∧ a ≤ 50) ∨ (a = 52 ∧ j = 7) ∨ (56 ≤ a ∧ a ≤ 58) ∨ (119 ≤ a ∧ a ≤ 131) ∨ a = 150 ∨ a = 151
theorem gX_s {K : z_K} {a j : Nat} (h : gS K a j) : gX K a j := Or.inl h
theorem gX_T {K : z_K} {a j : Nat} (h : gX K a j) : gT K a j := h.elim Or.inl (fun h => Or.inr (Or.inr (Or.inr (Or.inr (Or.inr h)))))
theorem gT_hi {a j : Nat} (ha : 152 ≤ a) (ht : (K.2.1 a).1 ≠ 8) : ¬ gT K a j := fun z => z.elim (gS_hi ha ht) (fun z => by omega)
theorem gT_s {a j : Nat} (h : gS K a j) : gT K a j := Or.inl h
theorem CLay.kd (h : CLay K) (hk : KD K K') : CLay K' := by
  have d1 : ∀ q ∈ c_arr, ¬ ((q.1 = 8 ∧ q.2.1 = 2) ∨ q.1 = 15) := by decide
  have d2 : ∀ q ∈ c_ptr, ¬ ((q.1 = 8 ∧ q.2.1 = 2) ∨ q.1 = 15) := by decide
  refine ⟨fun q hq => ?_, fun q hq => ?_, fun q hq => ?_⟩
  · rw [hk.1, hk.2.1]; exact h.1 q hq
  · rw [hk.1, hk.2.1, hk.2.2 _ _ (d1 q hq)]; exact h.2.1 q hq
  · rw [hk.2.2 _ _ (d2 q hq)]; exact h.2.2 q hq
theorem MLay.kd (h : MLay K) (hk : KD K K') : MLay K' := h.ext (by rw [hk.1]; exact Nat.le_refl _) (fun a _ => by rw [hk.2.1]) (by funext j; exact hk.2.2 59 j (by omega))
theorem PcK.kd (h : PcK K np pid) (hk : KD K K') : PcK K' np pid := by
  refine ⟨h.1, fun p hp => ?_, h.2.2⟩
  obtain ⟨a0, a1, a2, a3, a4, a5, a6, a7, a8, a9, b1, b2, b3, b4, b5, b6⟩ := h.2.1 p hp
  rw [hk.1, hk.2.1, hk.2.2 4 p (by omega), hk.hi (a := pid p) (by omega), hk.hi (a := pid p) (by omega), hk.hi (a := pid p) (by omega), hk.hi (a := pid p) (by omega), hk.hi (a := pid p) (by omega), hk.hi (a := pid p) (by omega)]
  exact ⟨a0, a1, a2, a3, a4, a5, a6, a7, a8, a9, b1, b2, b3, b4, b5, b6⟩
theorem PcK.ng (h : PcK K np pid) {p x j : Nat} (hp : p < np) (hx : x ≤ 6) : ¬ gT K (pid p + x) j := by
  have g := h.ge hp
  have s := h.s hp
  have c := h.cls hp
  refine gT_hi (by omega) ?_
  have : x = 0 ∨ x = 1 ∨ x = 2 ∨ x = 3 ∨ x = 4 ∨ x = 5 ∨ x = 6 := by omega
  rcases this with e | e | e | e | e | e | e <;> subst e
  · show (K.2.1 (pid p)).1 ≠ 8; rw [c]; decide
  · rw [s.1]; decide
  · rw [s.2.1]; decide
  · rw [s.2.2.1]; decide
  · rw [s.2.2.2.1]; decide
  · rw [s.2.2.2.2.1]; decide
  · rw [s.2.2.2.2.2]; decide
theorem BdK.kd (h : BdK K nb bid) (hk : KD K K') : BdK K' nb bid := by
  refine ⟨h.1, fun p hp => ?_, h.2.2⟩
  obtain ⟨a0, a1, a2, a3, a4, a5, a6, a7, a8, a9, a10, b1, b2, b3, b4, b5, b6, b7⟩ := h.2.1 p hp
  rw [hk.1, hk.2.1, hk.2.2 3 p (by omega), hk.hi (a := bid p) (by omega), hk.hi (a := bid p) (by omega), hk.hi (a := bid p) (by omega), hk.hi (a := bid p) (by omega), hk.hi (a := bid p) (by omega), hk.hi (a := bid p) (by omega), hk.hi (a := bid p) (by omega)]
  exact ⟨a0, a1, a2, a3, a4, a5, a6, a7, a8, a9, a10, b1, b2, b3, b4, b5, b6, b7⟩
theorem BdK.ng (h : BdK K nb bid) {p x j : Nat} (hp : p < nb) (hx : x ≤ 7) : ¬ gT K (bid p + x) j := by
  have g := h.ge hp
  have s := h.s hp
  have c := h.cls hp
  refine gT_hi (by omega) ?_
  have : x = 0 ∨ x = 1 ∨ x = 2 ∨ x = 3 ∨ x = 4 ∨ x = 5 ∨ x = 6 ∨ x = 7 := by omega
  rcases this with e | e | e | e | e | e | e | e <;> subst e
  · show (K.2.1 (bid p)).1 ≠ 8; rw [c]; decide
  · rw [s.1]; decide
  · rw [s.2.1]; decide
  · rw [s.2.2.1]; decide
  · rw [s.2.2.2.1]; decide
  · rw [s.2.2.2.2.1]; decide
  · rw [s.2.2.2.2.2.1]; decide
  · rw [s.2.2.2.2.2.2]; decide
theorem PcN.fz (h : PcN I np pid pts) (hP : PcK K np pid) (hI : Fz (gT K) I I') : PcN I' np pid pts := by
  refine ⟨?_, ?_, fun i hi => ?_⟩
  · rw [hI 0 8 (by unfold gT gS; omega)]; exact h.1
  · rw [hI 59 9 (by unfold gT gS; omega)]; exact h.2.1
  · rw [hI (pid i) 2 (hP.ng (x := 0) hi (by omega)), hI 67 i (by unfold gT gS; omega)]; exact h.2.2 i hi
theorem BdN.fz (h : BdN I nb) (hI : Fz (gT K) I I') : BdN I' nb := by
  refine ⟨?_, ?_⟩
  · rw [hI 0 4 (by unfold gT gS; omega)]; exact h.1
  · rw [hI 59 6 (by unfold gT gS; omega)]; exact h.2
theorem BlK.fr (h : BlK K I np pid par) (hP : PcK K np pid) (hk : KD K K') (hI : Fz (gT K) I I') : BlK K' I' np pid par := by
  intro q hq
  have hge := hP.ge hq
  have n0 : ∀ j, I' (pid q) j = I (pid q) j := fun j => hI (pid q) j (hP.ng (x := 0) hq (by omega))
  obtain ⟨a, b, c, d⟩ := h q hq
  rw [n0, n0, hI 66 q (by unfold gT gS; omega), hI 68 q (by unfold gT gS; omega), hk.hi (a := pid q) (by omega)]
  exact ⟨a, b, c, d⟩
theorem RlK.fr (h : RlK K I nr np pid rid rp rk) (hP : PcK K np pid) (hk : KD K K') (hI : Fz (gT K) I I') : RlK K' I' nr np pid rid rp rk := by
  obtain ⟨a, b, c, d, e⟩ := h
  refine ⟨a, ?_, ?_, fun r hr => ?_, fun p k hp hk2 => ?_⟩
  · rw [hI 0 9 (by unfold gT gS; omega)]; exact b
  · rw [hI 59 22 (by unfold gT gS; omega)]; exact c
  · obtain ⟨d1, d2, d3, d4, d5, d6, d7, d8, d9⟩ := d r hr
    rw [hI 79 r (by unfold gT gS; omega), hI 80 r (by unfold gT gS; omega), hI 81 r (by unfold gT gS; omega), hI (rid r) 0 (gT_hi d6 (by rw [d8]; decide)), hk.1, hk.2.1, hk.hi (a := rid r) d6]
    exact ⟨d1, d2, d3, d4, d5, d6, d7, d8, d9⟩
  · have := hP.ge hp
    rw [hk.hi (by omega)]; exact e p k hp hk2
/-- the codes of the rules -/
def RlC (K : z_K) (I : z_I) (nr : Nat) (rid rk ln cx cy : Nat → Nat) (X Y : Nat → List Int32) : Prop := ∀ r, r < nr → ln r ≤ 60 ∧ I 78 r = nI (ln r) ∧ (∀ k, k < ln r → 0 ≤ (I 77 (60 * r + k)).toInt) ∧ pT (fun k => I 77 (60 * r + k)) (ln r) (nI (rk r)) = some (Sum.inr (X r, Y r)) ∧ (X r).length + (Y r).length ≤ 60
  ∧ 152 ≤ cx r ∧ cx r < K.1 ∧ K.2.1 (cx r) = (20, (X r).length) ∧ K.2.2 (rid r) 1 = some (cx r) ∧ segT (I (cx r)) 0 (X r) ∧ 152 ≤ cy r ∧ cy r < K.1 ∧ K.2.1 (cy r) = (20, (Y r).length) ∧ K.2.2 (rid r) 2 = some (cy r) ∧ segT (I (cy r)) 0 (Y r)
theorem RlC.fr (h : RlC K I nr rid rk ln cx cy X Y) (hr6 : ∀ r, r < nr → 152 ≤ rid r) (hk : KD K K') (hI : Fz (gT K) I I') : RlC K' I' nr rid rk ln cx cy X Y := by
  intro r hr
  obtain ⟨a1, a2, a3, a4, a5, b1, b2, b3, b4, b5, c1, c2, c3, c4, c5⟩ := h r hr
  have h6 := hr6 r hr
  have e77 : ∀ k, I' 77 k = I 77 k := fun k => hI 77 k (by unfold gT gS; omega)
  have ex : I' (cx r) = I (cx r) := funext fun k => hI (cx r) k (gT_hi b1 (by rw [b3]; show (20 : Nat) ≠ 8; decide))
  have ey : I' (cy r) = I (cy r) := funext fun k => hI (cy r) k (gT_hi c1 (by rw [c3]; show (20 : Nat) ≠ 8; decide))
  refine ⟨a1, by rw [hI 78 r (by unfold gT gS; omega)]; exact a2, fun k hk2 => by rw [e77]; exact a3 k hk2, ?_, a5, b1, by rw [hk.1]; exact b2, by rw [hk.2.1]; exact b3, by rw [hk.hi h6]; exact b4, by rw [ex]; exact b5, c1, by rw [hk.1]; exact c2, by rw [hk.2.1]; exact c3, by rw [hk.hi h6]; exact c4, by rw [ey]; exact c5⟩
  rw [show (fun k => I' 77 (60 * r + k)) = fun k => I 77 (60 * r + k) from funext fun k => e77 _]
  exact a4
theorem AltI.fT (h : AltI I nb na bid m A) (hB : BdK K nb bid) (hI : Fz (gT K) I I') : AltI I' nb na bid m A := by
  obtain ⟨a, b, c, d, e, f⟩ := h
  refine ⟨by rw [hI 0 5 (by unfold gT gS; omega)]; exact a, by rw [hI 59 49 (by unfold gT gS; omega)]; exact b, c, d.cong (fun r _ => ?_) (fun r _ => ?_), fun i hi => ?_, f⟩
  · show (_, _) = (_, _)
    rw [hI 89 r (by unfold gT gS; omega), hI 88 r (by unfold gT gS; omega)]
  · show (_, _) = (_, _)
    rw [hI 90 r (by unfold gT gS; omega), hI 91 r (by unfold gT gS; omega)]
  · obtain ⟨e1, e2, e3⟩ := e i hi
    refine ⟨e1, by rw [hI (bid i) 5 (hB.ng (x := 0) hi (by omega))]; exact e2, e3.cong (fun k _ => hI _ _ (hB.ng hi (by omega))) (fun k _ => ?_)⟩
    show (_, _) = (_, _)
    rw [hI (bid i + 3) k (hB.ng hi (by omega)), hI (bid i + 4) k (hB.ng hi (by omega))]
theorem Tch.fr (hk : KD K K') (hI : Fz (gT K) I I') : ∀ (c : List (Int32 × Int32)) (o : Option Nat), Tch K I c o → Tch K' I' c o := by
  intro c
  induction c with
  | nil => intro o h; exact h
  | cons e c ih =>
    intro o h
    obtain ⟨q, h0, h1, h2, h3, h4, h5, h6, h7⟩ := h
    have nq : ∀ j, I' q j = I q j := fun j => hI q j (gT_hi h1 (by rw [h3]; decide))
    refine ⟨q, h0, h1, by rw [hk.1]; exact h2, by rw [hk.2.1]; exact h3, by rw [nq]; exact h4, by rw [nq]; exact h5, ?_, ?_⟩
    · rw [hk.hi h1]; exact ih _ h6
    · rw [hk.hi h1]; exact h7
theorem tabV_fT {mm s d : Int32} (hI : Fz (gT K) I I') : ∀ n, tabV I' mm s d n = tabV I mm s d n := by
  intro n
  induction n with
  | zero => rfl
  | succ n ih =>
    show (if I' 60 n = mm then if I' 61 n = s then if d < I' 63 n then tabV I' mm s d n else I' 62 n else tabV I' mm s d n else tabV I' mm s d n) = (if I 60 n = mm then if I 61 n = s then if d < I 63 n then tabV I mm s d n else I 62 n else tabV I mm s d n else tabV I mm s d n)
    rw [ih, hI 60 n (by unfold gT gS; omega), hI 61 n (by unfold gT gS; omega), hI 62 n (by unfold gT gS; omega), hI 63 n (by unfold gT gS; omega)]
theorem Tab.fr (h : Tab K I t) (hk : KD K K') (hI : Fz (gT K) I I') : Tab K' I' t := by
  intro mm s hm hs
  obtain ⟨c, h1, h2, h3⟩ := h mm s hm hs
  refine ⟨c, ?_, fun dy => by rw [tabV_fT hI]; exact h2 dy, fun e he => by rw [hI 59 0 (by unfold gT gS; omega)]; exact h3 e he⟩
  rw [hk.2.2 2 _ (by omega)]
  exact Tch.fr hk hI c _ h1
/-- bodies' measures and sizes on both sides -/
def BdM (I : z_I) (nb : Nat) (bid : Nat → Nat) : Prop := ∀ b, b < nb → I (bid b) 0 = I 64 b ∧ (∃ j, j < 11 ∧ I 64 b = nI j) ∧ ∀ q, q < 8 → I (bid b + 1) q = I 65 (8 * b + q) ∧ -1 ≤ (I 65 (8 * b + q)).toInt
theorem BdM.fr (h : BdM I nb bid) (hB : BdK K nb bid) (hI : Fz (gT K) I I') : BdM I' nb bid := by
  intro b hb
  obtain ⟨a, c, e⟩ := h b hb
  rw [hI (bid b) 0 (hB.ng (x := 0) hb (by omega)), hI 64 b (by unfold gT gS; omega)]
  refine ⟨a, c, fun q hq => ?_⟩
  rw [hI (bid b + 1) q (hB.ng hb (by omega)), hI 65 _ (by unfold gT gS; omega)]
  exact e q hq
/-- grades, knees of the points on both sides -/
def PcG (I : z_I) (np : Nat) (pid : Nat → Nat) : Prop := ∀ p k, p < np → k < 10 → I (pid p + 2) k = I 70 (10 * p + k) ∧ I (pid p + 3) k = I 71 (10 * p + k) ∧ I (pid p + 4) k = I 72 (10 * p + k) ∧ I (pid p + 5) k = I 73 (10 * p + k) ∧ I (pid p + 6) k = I 74 (10 * p + k)
theorem PcG.fr (h : PcG I np pid) (hP : PcK K np pid) (hI : Fz (gT K) I I') : PcG I' np pid := by
  intro p k hp hk
  rw [hI _ _ (hP.ng hp (by omega)), hI _ _ (hP.ng hp (by omega)), hI _ _ (hP.ng hp (by omega)), hI _ _ (hP.ng hp (by omega)), hI _ _ (hP.ng hp (by omega)), hI 70 _ (by unfold gT gS; omega), hI 71 _ (by unfold gT gS; omega), hI 72 _ (by unfold gT gS; omega), hI 73 _ (by unfold gT gS; omega), hI 74 _ (by unfold gT gS; omega)]
  exact h p k hp hk
/-- all that a drawing reads -/
def Wd (K : z_K) (I : z_I) (np nr nb na t : Nat) (pid pts rid rp rk ln cx cy bid m : Nat → Nat) (par : Nat → Option Nat) (X Y : Nat → List Int32) (A : Int32 → Int32 → Option (Int32 × Int32)) : Prop :=
  CLay K ∧ MLay K ∧ 152 ≤ K.1 ∧ PcK K np pid ∧ PcN I np pid pts ∧ BlK K I np pid par ∧ RlK K I nr np pid rid rp rk ∧ RlC K I nr rid rk ln cx cy X Y ∧ PcG I np pid ∧ BdK K nb bid ∧ BdN I nb ∧ AltI I nb na bid m A ∧ I 0 0 = I 59 0 ∧ I 59 1 = nI t ∧ t ≤ 2100 ∧ Tab K I t ∧ BdM I nb bid
theorem Wd.fT (h : Wd K I np nr nb na t pid pts rid rp rk ln cx cy bid m par X Y A) (hk : KD K K') (hI : Fz (gT K) I I') : Wd K' I' np nr nb na t pid pts rid rp rk ln cx cy bid m par X Y A := by
  obtain ⟨h1, h2, h3, h4, h5, h6, h7, h8, h9, h10, h11, h12, h13, h14, h15, h16, h17⟩ := h
  refine ⟨h1.kd hk, h2.kd hk, by rw [hk.1]; exact h3, h4.kd hk, h5.fz h4 hI, h6.fr h4 hk hI, h7.fr h4 hk hI, h8.fr (fun r hr => (h7.2.2.2.1 r hr).2.2.2.2.2.1) hk hI, h9.fr h4 hI, h10.kd hk, h11.fz hI, h12.fT h10 hI, ?_, ?_, h15, h16.fr hk hI, h17.fr h10 hI⟩
  · rw [hI 0 0 (by unfold gT gS; omega), hI 59 0 (by unfold gT gS; omega)]; exact h13
  · rw [hI 59 1 (by unfold gT gS; omega)]; exact h14
theorem Wd.fr (h : Wd K I np nr nb na t pid pts rid rp rk ln cx cy bid m par X Y A) (hk : KD K K') (hI : Fz (gS K) I I') : Wd K' I' np nr nb na t pid pts rid rp rk ln cx cy bid m par X Y A := h.fT hk (hI.mono (fun _ _ z => gT_s z))
theorem AltI.fr (h : AltI I nb na bid m A) (hB : BdK K nb bid) (hI : Fz (gS K) I I') : AltI I' nb na bid m A := h.fT hB (hI.mono (fun _ _ z => gT_s z))
theorem tabV_fr {mm s d : Int32} (hI : Fz (gS K) I I') (n : Nat) : tabV I' mm s d n = tabV I mm s d n := tabV_fT (hI.mono (fun _ _ z => gT_s z)) n
end WLD
