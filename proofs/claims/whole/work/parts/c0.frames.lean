/-! frames of the invariant's modules over any set -/
def KE (K K' : z_K) (np nb : Nat) : Prop := CLay K' ∧ MLay K' ∧ K.1 ≤ K'.1 ∧ (∀ a, a < K.1 → K'.2.1 a = K.2.1 a) ∧ (∀ p, p < np → K'.2.2 4 p = K.2.2 4 p) ∧ (∀ b, b < nb → K'.2.2 3 b = K.2.2 3 b) ∧ (∀ j, K'.2.2 2 j = K.2.2 2 j) ∧ ∀ a j, 152 ≤ a → a < K.1 → (K.2.1 a).1 ≠ 35 → K'.2.2 a j = K.2.2 a j
def wdS (a j : Nat) : Prop := (a = 0 ∧ (j = 0 ∨ j = 4 ∨ j = 5 ∨ j = 8 ∨ j = 9)) ∨ (a = 59 ∧ (j = 0 ∨ j = 1 ∨ j = 6 ∨ j = 9 ∨ j = 22 ∨ j = 49)) ∨ (60 ≤ a ∧ a ≤ 68) ∨ (70 ≤ a ∧ a ≤ 74) ∨ (77 ≤ a ∧ a ≤ 81) ∨ (88 ≤ a ∧ a ≤ 91)
/-- the rows of pieces, bodies, rules and tellings that Wd reads -/
def WdO (K : z_K) (S : Nat → Nat → Prop) (np nb nr : Nat) (pid bid rid cx cy : Nat → Nat) : Prop := (∀ p x j, p < np → x ≤ 6 → ¬ (x = 0 ∧ j = 4) → ¬ S (pid p + x) j) ∧ (∀ b x j, b < nb → x ≤ 4 → ¬ (x = 0 ∧ j = 9) → ¬ S (bid b + x) j) ∧ (∀ r j, r < nr → ¬ S (rid r) j ∧ ¬ S (cx r) j ∧ ¬ S (cy r) j) ∧ ∀ a j, 152 ≤ a → a < K.1 → (K.2.1 a).1 = 11 → ¬ S a j
section FRM
variable {K K' : z_K} {I I' : z_I} {np nr nb na t : Nat} {pid pts rid rp rk ln cx cy bid m : Nat → Nat} {par : Nat → Option Nat} {X Y : Nat → List Int32} {A : Int32 → Int32 → Option (Int32 × Int32)} {S : Nat → Nat → Prop}
theorem PcK.ke (h : PcK K np pid) (hk : KE K K' np nb) : PcK K' np pid := by
  obtain ⟨_, _, k1, k2, k4, k3, _, k5⟩ := hk
  refine ⟨h.1, fun p hp => ?_, h.2.2⟩
  obtain ⟨a0, a1, a2, a3, a4, a5, a6, a7, a8, a9, b1, b2, b3, b4, b5, b6⟩ := h.2.1 p hp
  have n35 : (K.2.1 (pid p)).1 ≠ 35 := by rw [a3]; decide
  refine ⟨by rw [k4 p hp]; exact a0, a1, by omega, by rw [k2 _ (by omega)]; exact a3, by rw [k2 _ (by omega)]; exact a4, by rw [k2 _ (by omega)]; exact a5, by rw [k2 _ (by omega)]; exact a6, by rw [k2 _ (by omega)]; exact a7, by rw [k2 _ (by omega)]; exact a8, by rw [k2 _ (by omega)]; exact a9, ?_⟩
  rw [k5 _ _ a1 (by omega) n35, k5 _ _ a1 (by omega) n35, k5 _ _ a1 (by omega) n35, k5 _ _ a1 (by omega) n35, k5 _ _ a1 (by omega) n35, k5 _ _ a1 (by omega) n35]
  exact ⟨b1, b2, b3, b4, b5, b6⟩
theorem BdK.ke (h : BdK K nb bid) (hk : KE K K' np nb) : BdK K' nb bid := by
  obtain ⟨_, _, k1, k2, k4, k3, _, k5⟩ := hk
  refine ⟨h.1, fun p hp => ?_, h.2.2⟩
  obtain ⟨a0, a1, a2, a3, a4, a5, a6, a7, a8, a9, a10, b1, b2, b3, b4, b5, b6, b7⟩ := h.2.1 p hp
  have n35 : (K.2.1 (bid p)).1 ≠ 35 := by rw [a3]; decide
  refine ⟨by rw [k3 p hp]; exact a0, a1, by omega, by rw [k2 _ (by omega)]; exact a3, by rw [k2 _ (by omega)]; exact a4, by rw [k2 _ (by omega)]; exact a5, by rw [k2 _ (by omega)]; exact a6, by rw [k2 _ (by omega)]; exact a7, by rw [k2 _ (by omega)]; exact a8, by rw [k2 _ (by omega)]; exact a9, by rw [k2 _ (by omega)]; exact a10, ?_⟩
  rw [k5 _ _ a1 (by omega) n35, k5 _ _ a1 (by omega) n35, k5 _ _ a1 (by omega) n35, k5 _ _ a1 (by omega) n35, k5 _ _ a1 (by omega) n35, k5 _ _ a1 (by omega) n35, k5 _ _ a1 (by omega) n35]
  exact ⟨b1, b2, b3, b4, b5, b6, b7⟩
theorem Tch.ke (hk : KE K K' np nb) (hI : Fz S I I') (ho : ∀ a j, 152 ≤ a → a < K.1 → (K.2.1 a).1 = 11 → ¬ S a j) : ∀ (c : List (Int32 × Int32)) (o : Option Nat), Tch K I c o → Tch K' I' c o := by
  obtain ⟨_, _, k1, k2, k4, k3, _, k5⟩ := hk
  intro c
  induction c with
  | nil => intro o h; exact h
  | cons e c ih =>
    intro o h
    obtain ⟨q, h0, h1, h2, h3, h4, h5, h6, h7⟩ := h
    have nq : ∀ j, I' q j = I q j := fun j => hI q j (ho q j h1 h2 h3)
    have nr : ∀ j, K'.2.2 q j = K.2.2 q j := fun j => k5 q j h1 h2 (by rw [h3]; decide)
    refine ⟨q, h0, h1, by omega, by rw [k2 q h2]; exact h3, by rw [nq]; exact h4, by rw [nq]; exact h5, ?_, ?_⟩
    · rw [nr]; exact ih _ h6
    · rw [nr]; exact h7
theorem tabV_ag {mm s d : Int32} (e60 : I' 60 = I 60) (e61 : I' 61 = I 61) (e62 : I' 62 = I 62) (e63 : I' 63 = I 63) : ∀ n, tabV I' mm s d n = tabV I mm s d n := by
  intro n
  induction n with
  | zero => rfl
  | succ n ih =>
    show (if I' 60 n = mm then if I' 61 n = s then if d < I' 63 n then tabV I' mm s d n else I' 62 n else tabV I' mm s d n else tabV I' mm s d n) = (if I 60 n = mm then if I 61 n = s then if d < I 63 n then tabV I mm s d n else I 62 n else tabV I mm s d n else tabV I mm s d n)
    rw [ih, e60, e61, e62, e63]
theorem Wd.fz (h : Wd K I np nr nb na t pid pts rid rp rk ln cx cy bid m par X Y A) (hk : KE K K' np nb) (hI : Fz S I I') (hs : ∀ a j, wdS a j → ¬ S a j) (ho : WdO K S np nb nr pid bid rid cx cy) : Wd K' I' np nr nb na t pid pts rid rp rk ln cx cy bid m par X Y A := by
  obtain ⟨h1, h2, h3, h4, h5, h6, h7, h8, h9, h10, h11, h12, h13, h14, h15, h16, h17⟩ := h
  have hk' := hk
  obtain ⟨k01, k02, k1, k2, k4, k3, k22, k5⟩ := hk
  obtain ⟨o1, o2, o3, o4⟩ := ho
  have e : ∀ a j, wdS a j → I' a j = I a j := fun a j z => hI a j (hs a j z)
  have ep : ∀ p x j, p < np → x ≤ 6 → ¬ (x = 0 ∧ j = 4) → I' (pid p + x) j = I (pid p + x) j := fun p x j a b c => hI _ _ (o1 p x j a b c)
  have eb : ∀ b x j, b < nb → x ≤ 4 → ¬ (x = 0 ∧ j = 9) → I' (bid b + x) j = I (bid b + x) j := fun p x j a b c => hI _ _ (o2 p x j a b c)
  have er : ∀ a, (60 ≤ a ∧ a ≤ 68) ∨ (70 ≤ a ∧ a ≤ 74) ∨ (77 ≤ a ∧ a ≤ 81) ∨ (88 ≤ a ∧ a ≤ 91) → I' a = I a := fun a z => funext fun j => e a j (by unfold wdS; omega)
  have e0 : ∀ p j, p < np → j ≠ 4 → I' (pid p) j = I (pid p) j := fun p j a b => ep p 0 j a (by omega) (by omega)
  have b0 : ∀ p j, p < nb → j ≠ 9 → I' (bid p) j = I (bid p) j := fun p j a b => eb p 0 j a (by omega) (by omega)
  refine ⟨k01, k02, by omega, h4.ke hk', ?_, ?_, ?_, ?_, ?_, h10.ke hk', ?_, ?_, ?_, ?_, h15, ?_, ?_⟩
  · refine ⟨by rw [e 0 8 (by unfold wdS; omega)]; exact h5.1, by rw [e 59 9 (by unfold wdS; omega)]; exact h5.2.1, fun i hi => ?_⟩
    rw [e0 i 2 hi (by omega), er 67 (by omega)]; exact h5.2.2 i hi
  · intro q hq
    have n35 : (K.2.1 (pid q)).1 ≠ 35 := by rw [h4.cls hq]; decide
    have hlt := h4.lt hq
    rw [e0 q 0 hq (by omega), e0 q 1 hq (by omega), er 66 (by omega), er 68 (by omega), k5 _ 3 (h4.ge hq) (by omega) n35]
    exact h6 q hq
  · obtain ⟨a, b, c, d, e'⟩ := h7
    refine ⟨a, by rw [e 0 9 (by unfold wdS; omega)]; exact b, by rw [e 59 22 (by unfold wdS; omega)]; exact c, fun r hr => ?_, fun p k hp hk2 => ?_⟩
    · obtain ⟨d1, d2, d3, d4, d5, d6, d7, d8, d9⟩ := d r hr
      refine ⟨d1, d2, by rw [er 79 (by omega)]; exact d3, by rw [er 80 (by omega)]; exact d4, by rw [hI _ _ (o3 r 0 hr).1, er 81 (by omega)]; exact d5, d6, by omega, by rw [k2 _ d7]; exact d8, by rw [k5 _ _ d6 d7 (by rw [d8]; decide)]; exact d9⟩
    · have hlt := h4.lt hp
      have hge := h4.ge hp
      rw [k5 _ _ (by omega) (by omega) (by rw [(h4.s hp).1]; decide)]; exact e' p k hp hk2
  · intro r hr
    obtain ⟨a1, a2, a3, a4, a5, b1, b2, b3, b4, b5, c1, c2, c3, c4, c5⟩ := h8 r hr
    obtain ⟨d1, d2, d3, d4, d5, d6, d7, d8, d9⟩ := h7.2.2.2.1 r hr
    have ex : I' (cx r) = I (cx r) := funext fun k => hI _ k (o3 r k hr).2.1
    have ey : I' (cy r) = I (cy r) := funext fun k => hI _ k (o3 r k hr).2.2
    have nr : ∀ j, K'.2.2 (rid r) j = K.2.2 (rid r) j := fun j => k5 _ j d6 d7 (by rw [d8]; decide)
    refine ⟨a1, by rw [er 78 (by omega)]; exact a2, fun k hk2 => by rw [er 77 (by omega)]; exact a3 k hk2, by rw [er 77 (by omega)]; exact a4, a5, b1, by omega, by rw [k2 _ b2]; exact b3, by rw [nr]; exact b4, by rw [ex]; exact b5, c1, by omega, by rw [k2 _ c2]; exact c3, by rw [nr]; exact c4, by rw [ey]; exact c5⟩
  · intro p k hp hk2
    rw [ep p 2 k hp (by omega) (by omega), ep p 3 k hp (by omega) (by omega), ep p 4 k hp (by omega) (by omega), ep p 5 k hp (by omega) (by omega), ep p 6 k hp (by omega) (by omega), er 70 (by omega), er 71 (by omega), er 72 (by omega), er 73 (by omega), er 74 (by omega)]
    exact h9 p k hp hk2
  · exact ⟨by rw [e 0 4 (by unfold wdS; omega)]; exact h11.1, by rw [e 59 6 (by unfold wdS; omega)]; exact h11.2⟩
  · obtain ⟨a, b, c, d, e', f⟩ := h12
    refine ⟨by rw [e 0 5 (by unfold wdS; omega)]; exact a, by rw [e 59 49 (by unfold wdS; omega)]; exact b, c, d.cong (fun r _ => ?_) (fun r _ => ?_), fun i hi => ?_, f⟩
    · show (_, _) = (_, _)
      rw [er 89 (by omega), er 88 (by omega)]
    · show (_, _) = (_, _)
      rw [er 90 (by omega), er 91 (by omega)]
    · obtain ⟨e1, e2, e3⟩ := e' i hi
      refine ⟨e1, by rw [b0 i 5 hi (by omega)]; exact e2, e3.cong (fun k _ => eb i 2 k hi (by omega) (by omega)) (fun k _ => ?_)⟩
      show (_, _) = (_, _)
      rw [eb i 3 k hi (by omega) (by omega), eb i 4 k hi (by omega) (by omega)]
  · rw [e 0 0 (by unfold wdS; omega), e 59 0 (by unfold wdS; omega)]; exact h13
  · rw [e 59 1 (by unfold wdS; omega)]; exact h14
  · intro mm s hm hs'
    obtain ⟨c, q1, q2, q3⟩ := h16 mm s hm hs'
    refine ⟨c, ?_, fun dy => by rw [tabV_ag (er 60 (by omega)) (er 61 (by omega)) (er 62 (by omega)) (er 63 (by omega))]; exact q2 dy, fun x hx => by rw [e 59 0 (by unfold wdS; omega)]; exact q3 x hx⟩
    rw [k22]
    exact Tch.ke hk' hI o4 c _ q1
  · intro b hb
    obtain ⟨a, c, e'⟩ := h17 b hb
    rw [b0 b 0 hb (by omega), er 64 (by omega)]
    refine ⟨a, c, fun q hq => ?_⟩
    rw [eb b 1 q hb (by omega) (by omega), er 65 (by omega)]
    exact e' q hq
theorem WdB.fz (h : WdB I np A) (hI : Fz S I I') (hs : ∀ a j, wdS a j → ¬ S a j) : WdB I' np A := by
  have er : ∀ a, (70 ≤ a ∧ a ≤ 74) → I' a = I a := fun a z => funext fun j => hI a j (hs a j (by unfold wdS; omega))
  unfold WdB at h ⊢
  rw [er 70 (by omega), er 71 (by omega), er 73 (by omega), er 74 (by omega)]
  exact h
end FRM
