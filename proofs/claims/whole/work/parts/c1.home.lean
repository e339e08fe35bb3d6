/-! the object that a cell belongs to; frames of the other modules -/
def Hm (K : z_K) (a o : Nat) : Prop := o ≤ a ∧ (K.2.1 o).1 < 14 ∧ ∀ y, o < y → y ≤ a → 14 ≤ (K.2.1 y).1
section HOM
variable {c : Nat} {K K' : z_K} {I I' : z_I} {np nr nb na t ns ne : Nat} {pid pts rid rp rk ln cx cy bid m sid eid : Nat → Nat} {par : Nat → Option Nat} {X Y : Nat → List Int32} {A : Int32 → Int32 → Option (Int32 × Int32)} {S : Nat → Nat → Prop}
theorem Hm.u {a o o' : Nat} (h : Hm K a o) (h' : Hm K a o') : o = o' := by
  refine Nat.le_antisymm (Nat.le_of_not_lt fun z => ?_) (Nat.le_of_not_lt fun z => ?_)
  · have := h'.2.2 o z h.1; have := h.2.1; omega
  · have := h.2.2 o' z h'.1; have := h'.2.1; omega
theorem Hm.me {o : Nat} (h : (K.2.1 o).1 < 14) : Hm K o o := ⟨Nat.le_refl _, h, fun y a b => by omega⟩
theorem hm_p (h : PcK K np pid) {p x : Nat} (hp : p < np) (hx : x ≤ 6) : Hm K (pid p + x) (pid p) := by
  have s := h.s hp
  refine ⟨by omega, by rw [h.cls hp]; omega, fun y a b => ?_⟩
  have : y = pid p + 1 ∨ y = pid p + 2 ∨ y = pid p + 3 ∨ y = pid p + 4 ∨ y = pid p + 5 ∨ y = pid p + 6 := by omega
  rcases this with e | e | e | e | e | e <;> subst e
  · rw [s.1]; decide
  · rw [s.2.1]; decide
  · rw [s.2.2.1]; decide
  · rw [s.2.2.2.1]; decide
  · rw [s.2.2.2.2.1]; decide
  · rw [s.2.2.2.2.2]; decide
theorem hm_b (h : BdK K nb bid) {p x : Nat} (hp : p < nb) (hx : x ≤ 7) : Hm K (bid p + x) (bid p) := by
  have s := h.s hp
  refine ⟨by omega, by rw [h.cls hp]; omega, fun y a b => ?_⟩
  have : y = bid p + 1 ∨ y = bid p + 2 ∨ y = bid p + 3 ∨ y = bid p + 4 ∨ y = bid p + 5 ∨ y = bid p + 6 ∨ y = bid p + 7 := by omega
  rcases this with e | e | e | e | e | e | e <;> subst e
  · rw [s.1]; decide
  · rw [s.2.1]; decide
  · rw [s.2.2.1]; decide
  · rw [s.2.2.2.1]; decide
  · rw [s.2.2.2.2.1]; decide
  · rw [s.2.2.2.2.2.1]; decide
  · rw [s.2.2.2.2.2.2]; decide
theorem hm_s (h : SmK K ns sid) {p x : Nat} (hp : p < ns) (hx : x ≤ 2) : Hm K (sid p + x) (sid p) := by
  obtain ⟨_, _, _, c, s1, s2, _⟩ := h.2.1 p hp
  refine ⟨by omega, by rw [c]; omega, fun y a b => ?_⟩
  have : y = sid p + 1 ∨ y = sid p + 2 := by omega
  rcases this with e | e <;> subst e
  · rw [s1]; decide
  · rw [s2]; decide
theorem hm_e (h : EdK K ne eid) {p x : Nat} (hp : p < ne) (hx : x ≤ 5) : Hm K (eid p + x) (eid p) := by
  obtain ⟨_, _, _, c, s1, s2, s3, s4, s5, _⟩ := h.2.1 p hp
  refine ⟨by omega, by rw [c]; omega, fun y a b => ?_⟩
  have : y = eid p + 1 ∨ y = eid p + 2 ∨ y = eid p + 3 ∨ y = eid p + 4 ∨ y = eid p + 5 := by omega
  rcases this with e | e | e | e | e <;> subst e
  · rw [s1]; decide
  · rw [s2]; decide
  · rw [s3]; decide
  · rw [s4]; decide
  · rw [s5]; decide
/-- what a set of cells may hold beside what drawings read -/
def okW (K : z_K) (S : Nat → Nat → Prop) : Prop := (∀ a j, wdS a j → ¬ S a j) ∧ ∀ a j, S a j → 152 ≤ a → a < K.1 → ∃ o, Hm K a o ∧ ((K.2.1 o).1 = 8 ∨ (K.2.1 o).1 = 3 ∨ ((K.2.1 o).1 = 0 ∧ (o + 5 ≤ a ∨ (a = o ∧ j = 9))) ∨ ((K.2.1 o).1 = 5 ∧ a = o ∧ j = 4))
theorem WdO_of (h : Wd K I np nr nb na t pid pts rid rp rk ln cx cy bid m par X Y A) (hc : ∀ r, r < nr → cx r = rid r + 1 ∧ cy r = rid r + 2) (hS : okW K S) : WdO K S np nb nr pid bid rid cx cy := by
  obtain ⟨h1, h2, h3, h4, h5, h6, h7, h8, h9, h10, h11, h12, h13, h14, h15, h16, h17⟩ := h
  refine ⟨fun p x j hp hx hn hs => ?_, fun b x j hb hx hn hs => ?_, fun r j hr => ?_, fun a j ha ha2 hc hs => ?_⟩
  · have hlt := h4.lt hp
    have hge := h4.ge hp
    obtain ⟨o, ho, k⟩ := hS.2 _ j hs (by omega) (by omega)
    have e := (hm_p h4 hp hx).u ho
    subst e
    rw [h4.cls hp] at k
    omega
  · have hlt := h10.lt hb
    have hge := h10.ge hb
    obtain ⟨o, ho, k⟩ := hS.2 _ j hs (by omega) (by omega)
    have e := (hm_b h10 hb (show x ≤ 7 by omega)).u ho
    subst e
    rw [h10.cls hb] at k
    omega
  · obtain ⟨d1, d2, d3, d4, d5, d6, d7, d8, d9⟩ := h7.2.2.2.1 r hr
    obtain ⟨a1, a2, a3, a4, a5, b1, b2, b3, b4, b5, c1, c2, c3, c4, c5⟩ := h8 r hr
    obtain ⟨e1, e2⟩ := hc r hr
    have hm : ∀ x, x ≤ 2 → Hm K (rid r + x) (rid r) := fun x hx => by
      refine ⟨by omega, by rw [d8]; omega, fun y a b => ?_⟩
      have : y = rid r + 1 ∨ y = rid r + 2 := by omega
      rcases this with e | e <;> subst e
      · rw [← e1, b3]; show 14 ≤ 20; omega
      · rw [← e2, c3]; show 14 ≤ 20; omega
    have no : ∀ x, x ≤ 2 → ¬ S (rid r + x) j := fun x hx hs => by
      obtain ⟨o, ho, k⟩ := hS.2 _ j hs (by omega) (by omega)
      have e := (hm x hx).u ho
      subst e
      rw [d8] at k
      omega
    refine ⟨no 0 (by omega), ?_, ?_⟩
    · rw [e1]; exact no 1 (by omega)
    · rw [e2]; exact no 2 (by omega)
  · obtain ⟨o, ho, k⟩ := hS.2 a j hs ha ha2
    have e := (Hm.me (by rw [hc]; omega)).u ho
    subst e
    rw [hc] at k
    omega
theorem IvA.fz {c' : Nat} (h : IvA c K I np nb pid pts bid) (hk : KE K K' np nb) (hI : Fz S I I') (hS : okW K S) (hc : c ≤ c') : IvA c' K' I' np nb pid pts bid := by
  obtain ⟨nr, na, t, rid, rp, rk, ln, cx, cy, m, par, X, Y, A, hW, hB, ht⟩ := h
  exact ⟨nr, na, t, rid, rp, rk, ln, cx, cy, m, par, X, Y, A, hW.fz hk hI hS.1 (WdO_of hW ht.2 hS), hB.fz hI hS.1, ⟨by have := ht.1.1; omega, ht.1.2.ke hk.2.2.1 hk.2.2.2.1 hk.2.2.2.2.2.2.1 (fun a j a1 a2 a3 => hk.2.2.2.2.2.2.2 a j a1 a2 (by rw [a3]; decide))⟩, ht.2⟩
def smS (a j : Nat) : Prop := (a = 0 ∧ j = 13) ∨ (a = 59 ∧ j = 62) ∨ (98 ≤ a ∧ a ≤ 109)
theorem IvS.fz (h : IvS K I np pid pts) (k1 : K.1 ≤ K'.1) (k2 : ∀ a, a < K.1 → K'.2.1 a = K.2.1 a) (k3 : ∀ j, K'.2.2 21 j = K.2.2 21 j) (k5 : ∀ a j, 152 ≤ a → a < K.1 → (K.2.1 a).1 = 8 → K'.2.2 a j = K.2.2 a j) (hI : Fz S I I') (hs : ∀ a j, smS a j → ¬ S a j) (ho : ∀ a j, S a j → 152 ≤ a → a < K.1 → ∃ o, Hm K a o ∧ (K.2.1 o).1 ≠ 8) : IvS K' I' np pid pts := by
  obtain ⟨ns, sid, s1, s2, sa, sb, sc, se, nc, h1, h2, h3, h4⟩ := h
  have e : ∀ a j, smS a j → I' a j = I a j := fun a j z => hI a j (hs a j z)
  have ed : ∀ s x j, s < ns → x ≤ 2 → I' (sid s + x) j = I (sid s + x) j := fun s x j a b => hI _ _ (fun z => by
    obtain ⟨_, g1, g2, g3, _⟩ := h1.2.1 s a
    obtain ⟨o, q1, q2⟩ := ho _ j z (by omega) (by omega)
    have e := (hm_s h1 a b).u q1
    subst e
    exact q2 g3)
  have e0 : ∀ s j, s < ns → I' (sid s) j = I (sid s) j := fun s j a => ed s 0 j a (by omega)
  refine ⟨ns, sid, s1, s2, sa, sb, sc, se, nc, ⟨h1.1, fun s hs => ?_, h1.2.2⟩, ⟨by rw [e 0 13 (by unfold smS; omega)]; exact h2.1, by rw [e 59 62 (by unfold smS; omega)]; exact h2.2⟩, fun s hs => ?_, fun s hs => ?_⟩
  · obtain ⟨g0, g1, g2, g3, g4, g5, g6, g7⟩ := h1.2.1 s hs
    exact ⟨by rw [k3]; exact g0, g1, by omega, by rw [k2 _ (by omega)]; exact g3, by rw [k2 _ (by omega)]; exact g4, by rw [k2 _ (by omega)]; exact g5, by rw [k5 _ _ g1 (by omega) g3]; exact g6, by rw [k5 _ _ g1 (by omega) g3]; exact g7⟩
  · obtain ⟨g0, g1, g2, g3, g4, g5, g6, g7⟩ := h1.2.1 s hs
    rw [k5 _ 0 g1 (by omega) g3, k5 _ 5 g1 (by omega) g3, e0 s 1 hs, e0 s 2 hs, e0 s 6 hs, e0 s 7 hs, e0 s 3 hs, e0 s 4 hs, e 98 s (by unfold smS; omega), e 99 s (by unfold smS; omega), e 100 s (by unfold smS; omega), e 101 s (by unfold smS; omega), e 102 s (by unfold smS; omega), e 103 s (by unfold smS; omega), e 104 s (by unfold smS; omega), e 105 s (by unfold smS; omega)]
    exact h3 s hs
  · obtain ⟨g1, g2, g3, g4, g5⟩ := h4 s hs
    refine ⟨g1, by rw [e0 s 11 hs]; exact g2, by rw [e 107 s (by unfold smS; omega)]; exact g3, by rw [e0 s 8 hs, e 106 s (by unfold smS; omega)]; exact g4, fun k hk => ?_⟩
    rw [ed s 1 k hs (by omega), ed s 2 k hs (by omega), e 108 _ (by unfold smS; omega), e 109 _ (by unfold smS; omega)]
    exact g5 k hk
def edS (a j : Nat) : Prop := (a = 0 ∧ j = 18) ∨ (a = 59 ∧ j = 114) ∨ (139 ≤ a ∧ a ≤ 146)
theorem IvE.fz (h : IvE K I np pid) (k1 : K.1 ≤ K'.1) (k2 : ∀ a, a < K.1 → K'.2.1 a = K.2.1 a) (k3 : ∀ j, K'.2.2 51 j = K.2.2 51 j) (k5 : ∀ a j, 152 ≤ a → a < K.1 → ((K.2.1 a).1 = 3 ∨ (K.2.1 a).1 = 35) → K'.2.2 a j = K.2.2 a j) (hI : Fz S I I') (hs : ∀ a j, edS a j → ¬ S a j) (ho : ∀ a j, S a j → 152 ≤ a → a < K.1 → ∃ o, Hm K a o ∧ (K.2.1 o).1 ≠ 3) : IvE K' I' np pid := by
  obtain ⟨ne, eid, lc, hp, wc, wi, hz, h1, h2, h3, h4, h5⟩ := h
  have e : ∀ a j, edS a j → I' a j = I a j := fun a j z => hI a j (hs a j z)
  have ed : ∀ s x j, s < ne → x ≤ 5 → I' (eid s + x) j = I (eid s + x) j := fun s x j a b => hI _ _ (fun z => by
    obtain ⟨_, g1, g2, g3, _⟩ := h1.2.1 s a
    obtain ⟨o, q1, q2⟩ := ho _ j z (by omega) (by omega)
    have e := (hm_e h1 a b).u q1
    subst e
    exact q2 g3)
  have e0 : ∀ s j, s < ne → I' (eid s) j = I (eid s) j := fun s j a => ed s 0 j a (by omega)
  refine ⟨ne, eid, lc, hp, wc, wi, hz, ⟨h1.1, fun s hs => ?_, h1.2.2⟩, by rw [e 0 18 (by unfold edS; omega)]; exact h2, by rw [e 59 114 (by unfold edS; omega)]; exact h3, fun s hs => ?_, fun s hs => ?_⟩
  · obtain ⟨g0, g1, g2, g3, g4, g5, g6, g7, g8, b1, b2, b3, b4, b5⟩ := h1.2.1 s hs
    have nr : ∀ j, K'.2.2 (eid s) j = K.2.2 (eid s) j := fun j => k5 _ j g1 (by omega) (Or.inl g3)
    exact ⟨by rw [k3]; exact g0, g1, by omega, by rw [k2 _ (by omega)]; exact g3, by rw [k2 _ (by omega)]; exact g4, by rw [k2 _ (by omega)]; exact g5, by rw [k2 _ (by omega)]; exact g6, by rw [k2 _ (by omega)]; exact g7, by rw [k2 _ (by omega)]; exact g8, by rw [nr]; exact b1, by rw [nr]; exact b2, by rw [nr]; exact b3, by rw [nr]; exact b4, by rw [nr]; exact b5⟩
  · obtain ⟨g0, g1, g2, g3, g4, _⟩ := h1.2.1 s hs
    obtain ⟨q1, q2, q3, q4⟩ := h4 s hs
    refine ⟨q1, by rw [e0 s 3 hs]; exact q2, by rw [e 140 s (by unfold edS; omega)]; exact q3, fun i hi => ?_⟩
    rw [k5 _ i (by omega) (by omega) (Or.inr (by rw [g4])), e 141 _ (by unfold edS; omega)]
    exact q4 i hi
  · obtain ⟨q1, q2, q3, q4, q5, q6⟩ := h5 s hs
    refine ⟨q1, by rw [e0 s 7 hs]; exact q2, by rw [e 143 s (by unfold edS; omega)]; exact q3, by rw [e0 s 0 hs, e 139 s (by unfold edS; omega)]; exact q4, fun w hw => ?_, fun i hi => ?_⟩
    · rw [ed s 3 w hs (by omega), ed s 4 w hs (by omega), ed s 5 w hs (by omega), e 144 _ (by unfold edS; omega), e 145 _ (by unfold edS; omega), e 146 _ (by unfold edS; omega)]
      exact q5 w hw
    · rw [ed s 2 i hs (by omega), e 142 _ (by unfold edS; omega)]
      exact q6 i hi
def trM2 (a j : Nat) : Prop := (a = 0 ∧ j = 6) ∨ (a = 59 ∧ j = 107) ∨ (133 ≤ a ∧ a ≤ 138)
theorem IvT.fz (h : IvT I nb bid) (hB : BdK K nb bid) (hI : Fz S I I') (hs : ∀ a j, trM2 a j → ¬ S a j) (ho : ∀ a j, S a j → 152 ≤ a → a < K.1 → ∃ o, Hm K a o ∧ ((K.2.1 o).1 = 0 → ¬ (a = o ∧ j = 9) ∧ a < o + 5)) : IvT I' nb bid := by
  obtain ⟨nt, tp, tb, ta, te, h1, h2, h3, h4, h5⟩ := h
  have e : ∀ a j, trM2 a j → I' a j = I a j := fun a j z => hI a j (hs a j z)
  have ed : ∀ b x j, b < nb → x ≤ 7 → ((x = 0 ∧ j = 9) ∨ 5 ≤ x) → I' (bid b + x) j = I (bid b + x) j := fun b x j a q w => hI _ _ (fun z => by
    have g1 := hB.ge a
    have g2 := hB.lt a
    obtain ⟨o, q1, q2⟩ := ho _ j z (by omega) (by omega)
    have e := (hm_b hB a q).u q1
    subst e
    have := q2 (hB.cls a)
    omega)
  refine ⟨nt, tp, tb, ta, te, h1, by rw [e 0 6 (by unfold trM2; omega)]; exact h2, by rw [e 59 107 (by unfold trM2; omega)]; exact h3, fun i hi => by rw [show I' (bid i) 9 = I (bid i) 9 from ed i 0 9 hi (by omega) (by omega)]; exact h4 i hi, fun k hk => ?_⟩
  have h9 := h5 k hk
  have hb := h9.2.1
  rw [e 133 k (by unfold trM2; omega), e 134 k (by unfold trM2; omega), e 135 k (by unfold trM2; omega), e 136 k (by unfold trM2; omega), e 137 k (by unfold trM2; omega), e 138 k (by unfold trM2; omega), ed _ 5 _ hb (by omega) (by omega), ed _ 6 _ hb (by omega) (by omega), ed _ 7 _ hb (by omega) (by omega)]
  exact h9
def mkS (a j : Nat) : Prop := (a = 25 ∧ j = 4) ∨ (a = 59 ∧ j = 89) ∨ a = 28 ∨ a = 117 ∨ a = 118
theorem IvM.fz (h : IvM K I np pid) (k3 : ∀ j, K'.2.2 27 j = K.2.2 27 j) (hI : Fz S I I') (hs : ∀ a j, mkS a j → ¬ S a j) : IvM K' I' np pid := by
  obtain ⟨N, mp, ms, h1, h2, h3, h4⟩ := h
  have e : ∀ a j, mkS a j → I' a j = I a j := fun a j z => hI a j (hs a j z)
  refine ⟨N, mp, ms, h1, by rw [e 25 4 (by unfold mkS; omega)]; exact h2, by rw [e 59 89 (by unfold mkS; omega)]; exact h3, fun i hi => ?_⟩
  rw [k3, e 28 i (by unfold mkS; omega), e 117 i (by unfold mkS; omega), e 118 i (by unfold mkS; omega)]
  exact h4 i hi
def clS (a _j : Nat) : Prop := a = 26 ∨ a = 113
theorem IvC.fz (h : IvC I) (hI : Fz S I I') (hs : ∀ a j, clS a j → ¬ S a j) : IvC I' := by
  have e26 : I' 26 = I 26 := funext fun j => hI 26 j (hs 26 j (Or.inl rfl))
  have e113 : I' 113 = I 113 := funext fun j => hI 113 j (hs 113 j (Or.inr rfl))
  unfold IvC ClE at h ⊢
  rw [e26, e113]
  exact h
theorem IvG.fz (h : IvG I np pid) (hP : PcK K np pid) (hI : Fz S I I') (h69 : ∀ j, ¬ S 69 j) (ho : ∀ a j, S a j → 152 ≤ a → a < K.1 → ∃ o, Hm K a o ∧ ((K.2.1 o).1 = 5 → ¬ (a = o ∧ j = 4))) : IvG I' np pid := fun i hi => by
  have g1 := hP.ge hi
  have g2 := hP.lt hi
  rw [hI 69 i (h69 i), hI (pid i) 4 (fun z => by
    obtain ⟨o, q1, q2⟩ := ho _ 4 z (by omega) (by omega)
    have e := (hm_p hP hi (show 0 ≤ 6 by omega)).u q1
    subst e
    exact q2 (hP.cls hi) ⟨rfl, rfl⟩)]
  exact h i hi
theorem KE.rf (hC : CLay K) (hM : MLay K) : KE K K np nb := ⟨hC, hM, Nat.le_refl _, fun _ _ => rfl, fun _ _ => rfl, fun _ _ => rfl, fun _ => rfl, fun _ _ _ _ _ => rfl⟩
end HOM
