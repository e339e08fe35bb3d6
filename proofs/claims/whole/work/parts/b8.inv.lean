/-! the invariant, in modules -/
/-- each telling lies in one chain -/
def Own (K : z_K) : Prop := ∃ ow : Nat → Nat, (∀ k q, k < 88 → K.2.2 2 k = some q → ow q = k ∧ q < K.1 ∧ 152 ≤ q ∧ (K.2.1 q).1 = 11) ∧ ∀ a q, 152 ≤ a → a < K.1 → (K.2.1 a).1 = 11 → ow a < 88 → K.2.2 a 2 = some q → ow q = ow a ∧ q < a ∧ 152 ≤ q ∧ (K.2.1 q).1 = 11
theorem Own.ke {K K' : z_K} (h : Own K) (k1 : K.1 ≤ K'.1) (k2 : ∀ a, a < K.1 → K'.2.1 a = K.2.1 a) (k22 : ∀ j, K'.2.2 2 j = K.2.2 2 j) (k5 : ∀ a j, 152 ≤ a → a < K.1 → (K.2.1 a).1 = 11 → K'.2.2 a j = K.2.2 a j) : Own K' := by
  obtain ⟨ow, h1, h2⟩ := h
  refine ⟨fun a => if a < K.1 then ow a else 88, fun k q hk e => ?_, fun a q a1 a2 a3 a4 e => ?_⟩
  · rw [k22] at e
    obtain ⟨e1, e2, e3, e4⟩ := h1 k q hk e
    exact ⟨by simp only [if_pos e2]; exact e1, by omega, e3, by rw [k2 q e2]; exact e4⟩
  · by_cases y : a < K.1
    · simp only [if_pos y] at a4 ⊢
      rw [k2 a y] at a3
      rw [k5 a 2 a1 y a3] at e
      obtain ⟨e1, e2, e3, e4⟩ := h2 a q a1 y a3 a4 e
      exact ⟨by rw [if_pos (by omega)]; exact e1, e2, e3, by rw [k2 q (by omega)]; exact e4⟩
    · simp only [if_neg y] at a4
      omega
theorem Own.kd {K K' : z_K} (h : Own K) (hk : KD K K') : Own K' := h.ke (by rw [hk.1]; exact Nat.le_refl _) (fun a _ => by rw [hk.2.1]) (fun j => hk.2.2 2 j (by omega)) (fun a j a1 _ _ => hk.hi a1)
def IvA (c : Nat) (K : z_K) (I : z_I) (np nb : Nat) (pid pts bid : Nat → Nat) : Prop := ∃ nr na t rid rp rk ln cx cy m par X Y A, Wd K I np nr nb na t pid pts rid rp rk ln cx cy bid m par X Y A ∧ WdB I np A ∧ (t ≤ c ∧ Own K) ∧ ∀ r, r < nr → cx r = rid r + 1 ∧ cy r = rid r + 2
def IvS (K : z_K) (I : z_I) (np : Nat) (pid pts : Nat → Nat) : Prop := ∃ ns sid s1 s2 sa sb sc se nc, SmK K ns sid ∧ SmN I ns ∧ SmD K I ns np sid pid pts s1 s2 sa sb sc se ∧ NtD I ns sid nc
def IvE (K : z_K) (I : z_I) (np : Nat) (pid : Nat → Nat) : Prop := ∃ ne eid lc hp wc wi hz, EdK K ne eid ∧ I 0 18 = nI ne ∧ I 59 114 = nI ne ∧ HdK K I ne np eid pid lc hp ∧ WoD I ne eid lc wc wi hz
def IvT (I : z_I) (nb : Nat) (bid : Nat → Nat) : Prop := ∃ nt tp tb ta te, TrD I nt nb bid tp tb ta te
def IvM (K : z_K) (I : z_I) (np : Nat) (pid : Nat → Nat) : Prop := ∃ N mp ms, MkD K I N np pid mp ms
def IvC (I : z_I) : Prop := (∀ i, i < 6 → I 26 i = I 113 i) ∧ (∃ cw ow st, ClE I cw ow st) ∧ ∀ i, 4 ≤ i → i < 6 → 0 ≤ (I 113 i).toInt ∧ (I 113 i).toInt ≤ 50
def IvB (I : z_I) : Prop := ∃ nb2 B, ByD I nb2 B
def IvX (I : z_I) : Prop := ∃ n, TxM I n
def IvK (I : z_I) : Prop := ∃ nc, CoD I nc
def IvN (I : z_I) : Prop := ∃ M w pn o, SeD I M w pn o
def IvG (I : z_I) (np : Nat) (pid : Nat → Nat) : Prop := ∀ i, i < np → I (pid i) 4 = I 69 i
/-- what lies behind the counts is nought -/
def IvZ (I : z_I) : Prop := ∃ np ns ne, (np ≤ 16 ∧ ns ≤ 20 ∧ ne ≤ 12) ∧ (I 59 9 = nI np ∧ I 59 62 = nI ns ∧ I 59 114 = nI ne) ∧ (∀ j, np ≤ j → I 69 j = 0) ∧ (∀ j, 10 * np ≤ j → I 70 j = 0 ∧ I 71 j = 0 ∧ I 72 j = 0 ∧ I 73 j = 0 ∧ I 74 j = 0) ∧ (∀ j, ns ≤ j → I 106 j = 0 ∧ I 107 j = 0) ∧ ∀ j, ne ≤ j → I 140 j = 0 ∧ I 143 j = 0
def zzS (a j : Nat) : Prop := (a = 59 ∧ (j = 9 ∨ j = 62 ∨ j = 114)) ∨ (69 ≤ a ∧ a ≤ 74) ∨ a = 106 ∨ a = 107 ∨ a = 140 ∨ a = 143
theorem IvZ.ft {I I' : z_I} {S : Nat → Nat → Prop} (h : IvZ I) (hI : Fz S I I') (hs : ∀ np ns ne, np ≤ 16 → ns ≤ 20 → ne ≤ 12 → I 59 9 = nI np → I 59 62 = nI ns → I 59 114 = nI ne → ∀ a j, S a j → ¬ (a = 59 ∧ (j = 9 ∨ j = 62 ∨ j = 114)) ∧ (a = 69 → j < np) ∧ (70 ≤ a ∧ a ≤ 74 → j < 10 * np) ∧ (a = 106 ∨ a = 107 → j < ns) ∧ (a = 140 ∨ a = 143 → j < ne)) : IvZ I' := by
  obtain ⟨np, ns, ne, ⟨h1, h2, h3⟩, ⟨e1, e2, e3⟩, z1, z2, z3, z4⟩ := h
  have k := hs np ns ne h1 h2 h3 e1 e2 e3
  have n : ∀ a j, ¬ (¬ (a = 59 ∧ (j = 9 ∨ j = 62 ∨ j = 114)) ∧ (a = 69 → j < np) ∧ (70 ≤ a ∧ a ≤ 74 → j < 10 * np) ∧ (a = 106 ∨ a = 107 → j < ns) ∧ (a = 140 ∨ a = 143 → j < ne)) → I' a j = I a j := fun a j z => hI a j (fun y => z (k a j y))
  refine ⟨np, ns, ne, ⟨h1, h2, h3⟩, ⟨by rw [n 59 9 (by omega)]; exact e1, by rw [n 59 62 (by omega)]; exact e2, by rw [n 59 114 (by omega)]; exact e3⟩, fun j hj => by rw [n 69 j (by omega)]; exact z1 j hj, fun j hj => ?_, fun j hj => ?_, fun j hj => ?_⟩
  · rw [n 70 j (by omega), n 71 j (by omega), n 72 j (by omega), n 73 j (by omega), n 74 j (by omega)]; exact z2 j hj
  · rw [n 106 j (by omega), n 107 j (by omega)]; exact z3 j hj
  · rw [n 140 j (by omega), n 143 j (by omega)]; exact z4 j hj
theorem IvZ.fz {I I' : z_I} {S : Nat → Nat → Prop} (h : IvZ I) (hI : Fz S I I') (hs : ∀ a j, zzS a j → ¬ S a j) : IvZ I' := h.ft hI (fun _ _ _ _ _ _ _ _ _ a j y => by
  have : ¬ zzS a j := fun z => hs a j z y
  unfold zzS at this
  omega)
def IvD (I : z_I) : Prop := (0 ≤ (I 59 0).toInt ∧ (I 59 0).toInt ≤ 1000) ∧ IvZ I
theorem IvD.fz {I I' : z_I} {S : Nat → Nat → Prop} (h : IvD I) (hI : Fz S I I') (h0 : ¬ S 59 0) (hz : IvZ I') : IvD I' := ⟨by rw [hI 59 0 h0]; exact h.1, hz⟩
def IvR (I : z_I) : Prop := ∀ k, k < 8 → I 1 k = I 75 k
def Inv (c : Nat) (K : z_K) (I : z_I) : Prop := ∃ np nb pid pts bid, IvA c K I np nb pid pts bid ∧ IvS K I np pid pts ∧ IvE K I np pid ∧ IvT I nb bid ∧ IvM K I np pid ∧ IvC I ∧ IvB I ∧ IvX I ∧ IvK I ∧ IvN I ∧ IvG I np pid ∧ IvD I ∧ IvR I
section IVF
variable {n0 c : Nat} {K K' : z_K} {I I' : z_I} {L : z_L} {np nb : Nat} {pid pts bid : Nat → Nat}
theorem IvA.fT (h : IvA c K I np nb pid pts bid) (hk : KD K K') (hI : Fz (gT K) I I') : IvA c K' I' np nb pid pts bid := by
  obtain ⟨nr, na, t, rid, rp, rk, ln, cx, cy, m, par, X, Y, A, hW, hB, ht⟩ := h
  exact ⟨nr, na, t, rid, rp, rk, ln, cx, cy, m, par, X, Y, A, hW.fT hk hI, hB.fT hI, ⟨ht.1.1, ht.1.2.kd hk⟩, ht.2⟩
theorem IvA.mono {c' : Nat} (h : IvA c K I np nb pid pts bid) (hc : c ≤ c') : IvA c' K I np nb pid pts bid := by
  obtain ⟨nr, na, t, rid, rp, rk, ln, cx, cy, m, par, X, Y, A, hW, hB, ht⟩ := h
  exact ⟨nr, na, t, rid, rp, rk, ln, cx, cy, m, par, X, Y, A, hW, hB, ⟨by have := ht.1.1; omega, ht.1.2⟩, ht.2⟩
theorem IvA.pk (h : IvA c K I np nb pid pts bid) : PcK K np pid := by
  obtain ⟨nr, na, t, rid, rp, rk, ln, cx, cy, m, par, X, Y, A, hW, hB, ht⟩ := h
  exact hW.2.2.2.1
theorem IvA.bk (h : IvA c K I np nb pid pts bid) : BdK K nb bid := by
  obtain ⟨nr, na, t, rid, rp, rk, ln, cx, cy, m, par, X, Y, A, hW, hB, ht⟩ := h
  exact hW.2.2.2.2.2.2.2.2.2.1
theorem IvA.lay (h : IvA c K I np nb pid pts bid) : CLay K ∧ MLay K ∧ 152 ≤ K.1 := by
  obtain ⟨nr, na, t, rid, rp, rk, ln, cx, cy, m, par, X, Y, A, hW, hB, ht⟩ := h
  exact ⟨hW.1, hW.2.1, hW.2.2.1⟩
theorem IvS.fT (h : IvS K I np pid pts) (hk : KD K K') (hI : Fz (gT K) I I') : IvS K' I' np pid pts := by
  obtain ⟨ns, sid, s1, s2, sa, sb, sc, se, nc, h1, h2, h3, h4⟩ := h
  refine ⟨ns, sid, s1, s2, sa, sb, sc, se, nc, h1.kd hk, ⟨?_, ?_⟩, h3.fT h1 hk hI, h4.fT h1 hI⟩
  · rw [hI 0 13 (by unfold gT gS; omega)]; exact h2.1
  · rw [hI 59 62 (by unfold gT gS; omega)]; exact h2.2
theorem IvE.fT (h : IvE K I np pid) (hk : KD K K') (hI : Fz (gT K) I I') : IvE K' I' np pid := by
  obtain ⟨ne, eid, lc, hp, wc, wi, hz, h1, h2, h3, h4, h5⟩ := h
  refine ⟨ne, eid, lc, hp, wc, wi, hz, h1.kd hk, ?_, ?_, h4.fT h1 hk hI, h5.fT h1 hI⟩
  · rw [hI 0 18 (by unfold gT gS; omega)]; exact h2
  · rw [hI 59 114 (by unfold gT gS; omega)]; exact h3
theorem IvT.fT (h : IvT I nb bid) (hB : BdK K nb bid) (hI : Fz (gT K) I I') : IvT I' nb bid := by
  obtain ⟨nt, tp, tb, ta, te, h1⟩ := h
  exact ⟨nt, tp, tb, ta, te, h1.fT hB hI⟩
theorem IvM.fT (h : IvM K I np pid) (hk : KD K K') (hI : Fz (gT K) I I') : IvM K' I' np pid := by
  obtain ⟨N, mp, ms, h1⟩ := h
  exact ⟨N, mp, ms, h1.fT hk hI⟩
theorem IvC.fT (h : IvC I) (hI : Fz (gT K) I I') : IvC I' := by
  obtain ⟨h1, ⟨cw, ow, st, h2⟩, h3⟩ := h
  refine ⟨fun i hi => ?_, ⟨cw, ow, st, h2.fT hI⟩, fun i a b => ?_⟩
  · rw [hI 26 i (by unfold gT gS; omega), hI 113 i (by unfold gT gS; omega)]; exact h1 i hi
  · rw [hI 113 i (by unfold gT gS; omega)]; exact h3 i a b
/-- what the bytes' row stands on -/
def byS (a j : Nat) : Prop := (a = 25 ∧ j = 12) ∨ (a = 59 ∧ j = 106) ∨ a = 35 ∨ a = 132
theorem IvB.fz {S : Nat → Nat → Prop} (h : IvB I) (hI : Fz S I I') (hS : ∀ a j, byS a j → ¬ S a j) : IvB I' := by
  obtain ⟨n, B, h1, h2, h3, h4⟩ := h
  refine ⟨n, B, h1, ?_, ?_, fun j hj => ?_⟩
  · rw [hI 25 12 (hS _ _ (Or.inl ⟨rfl, rfl⟩))]; exact h2
  · rw [hI 59 106 (hS _ _ (Or.inr (Or.inl ⟨rfl, rfl⟩)))]; exact h3
  · rw [hI 35 j (hS _ _ (Or.inr (Or.inr (Or.inl rfl)))), hI 132 j (hS _ _ (Or.inr (Or.inr (Or.inr rfl))))]; exact h4 j hj
def twS (a j : Nat) : Prop := (a = 5 ∧ j = 1) ∨ (a = 59 ∧ j = 21) ∨ a = 6 ∨ a = 76
theorem IvX.fz {S : Nat → Nat → Prop} (h : IvX I) (hI : Fz S I I') (hS : ∀ a j, twS a j → ¬ S a j) : IvX I' := by
  obtain ⟨n, h1, h2, h3, h4⟩ := h
  refine ⟨n, ?_, ?_, h3, fun k hk => ?_⟩
  · rw [hI 5 1 (hS _ _ (Or.inl ⟨rfl, rfl⟩))]; exact h1
  · rw [hI 59 21 (hS _ _ (Or.inr (Or.inl ⟨rfl, rfl⟩)))]; exact h2
  · rw [hI 6 k (hS _ _ (Or.inr (Or.inr (Or.inl rfl)))), hI 76 k (hS _ _ (Or.inr (Or.inr (Or.inr rfl))))]; exact h4 k hk
def cdS (a j : Nat) : Prop := (a = 22 ∧ j = 2) ∨ (a = 59 ∧ j = 77) ∨ a = 23 ∨ a = 24 ∨ a = 110 ∨ a = 111
theorem IvK.fz {S : Nat → Nat → Prop} (h : IvK I) (hI : Fz S I I') (hS : ∀ a j, cdS a j → ¬ S a j) : IvK I' := by
  obtain ⟨n, h1⟩ := h
  have e : ∀ a j, cdS a j → I' a j = I a j := fun a j h => hI a j (hS a j h)
  have e23 : I' 23 = I 23 := funext fun j => e 23 j (by unfold cdS; omega)
  have e24 : I' 24 = I 24 := funext fun j => e 24 j (by unfold cdS; omega)
  have e110 : I' 110 = I 110 := funext fun j => e 110 j (by unfold cdS; omega)
  have e111 : I' 111 = I 111 := funext fun j => e 111 j (by unfold cdS; omega)
  refine ⟨n, ?_⟩
  unfold CoD at h1 ⊢
  rw [e 22 2 (by unfold cdS; omega), e 59 77 (by unfold cdS; omega), e23, e24, e110, e111]
  exact h1
def seS (a j : Nat) : Prop := (a = 52 ∧ j = 3) ∨ (a = 59 ∧ j = 124) ∨ (53 ≤ a ∧ a ≤ 55) ∨ (147 ≤ a ∧ a ≤ 149)
theorem IvN.fz {S : Nat → Nat → Prop} (h : IvN I) (hI : Fz S I I') (hS : ∀ a j, seS a j → ¬ S a j) : IvN I' := by
  obtain ⟨M, w, pn, o, h1, h2, h3, h4, h5⟩ := h
  have e : ∀ a j, seS a j → I' a j = I a j := fun a j h => hI a j (hS a j h)
  refine ⟨M, w, pn, o, h1, by rw [e 52 3 (by unfold seS; omega)]; exact h2, by rw [e 59 124 (by unfold seS; omega)]; exact h3, fun m hm => ?_, fun s hs => ?_⟩
  · obtain ⟨a1, a2, a3, a4, a5, a6, a7⟩ := h4 m hm
    exact ⟨by rw [e 55 m (by unfold seS; omega)]; exact a1, by rw [e 149 m (by unfold seS; omega)]; exact a2, a3, a4, by rw [e 148 m (by unfold seS; omega)]; exact a5, a6, fun s hs => by rw [e 54 _ (by unfold seS; omega)]; exact a7 s hs⟩
  · rw [e 53 s (by unfold seS; omega), e 147 s (by unfold seS; omega)]; exact h5 s hs
theorem IvG.fT (h : IvG I np pid) (hP : PcK K np pid) (hI : Fz (gT K) I I') : IvG I' np pid := fun i hi => by
  rw [hI (pid i) 4 (by have := hP.ng (j := 4) hi (show 0 ≤ 6 by omega); exact this), hI 69 i (by unfold gT gS; omega)]; exact h i hi
theorem Inv.mono {c' : Nat} (h : Inv c K I) (hc : c ≤ c') : Inv c' K I := by
  obtain ⟨np, nb, pid, pts, bid, h1, h2⟩ := h
  exact ⟨np, nb, pid, pts, bid, h1.mono hc, h2⟩
theorem Inv.lay (h : Inv c K I) : CLay K ∧ MLay K := by
  obtain ⟨np, nb, pid, pts, bid, h1, h2⟩ := h
  exact ⟨h1.lay.1, h1.lay.2.1⟩
/-- nothing but what is scratch, or counted by refusals -/
theorem Inv.fT (h : Inv c K I) (hk : KD K K') (hI : Fz (gT K) I I') (hB : ∀ a j, byS a j → I' a j = I a j) (hR : IvR I') : Inv c K' I' := by
  obtain ⟨np, nb, pid, pts, bid, hA, hS, hE, hT, hM, hC, hBy, hX, hK, hN, hG, hD, _⟩ := h
  refine ⟨np, nb, pid, pts, bid, hA.fT hk hI, hS.fT hk hI, hE.fT hk hI, hT.fT hA.bk hI, hM.fT hk hI, hC.fT hI, hBy.fz (S := fun a j => ¬ byS a j) (fun a j z => hB a j (Classical.byContradiction z)) (fun a j z y => y z), hX.fz hI (fun a j z => by unfold twS at z; unfold gT gS; omega), hK.fz hI (fun a j z => by unfold cdS at z; unfold gT gS; omega), hN.fz hI (fun a j z => by unfold seS at z; unfold gT gS; omega), hG.fT hA.pk hI, ?_, hR⟩
  refine hD.fz hI (by unfold gT gS; omega) (hD.2.fz hI (fun a j z => ?_))
  unfold zzS at z
  unfold gT gS
  omega
theorem Inv.r (h : Inv c K I) : IvR I := by
  obtain ⟨np, nb, pid, pts, bid, _, _, _, _, _, _, _, _, _, _, _, _, hR⟩ := h
  exact hR
theorem Inv.fX (h : Inv c K I) (hk : KD K K') (hI : Fz (gX K) I I') : Inv c K' I' :=
  h.fT hk (hI.mono (fun _ _ z => gX_T z)) (fun a j z => hI a j (by unfold byS at z; unfold gX gS; omega)) (fun k hk => by rw [hI 1 k (by unfold gX gS; omega), hI 75 k (by unfold gX gS; omega)]; exact h.r k hk)
theorem Inv.rf (h : Inv c K I) (k : Nat) : Inv c K (rfI I k) := by
  have f : Fz (fun a _ => a = 1 ∨ a = 75) I (rfI I k) := (Fz.rfl'.z (Or.inl rfl)).z (Or.inr rfl)
  refine h.fT KD.rf (f.mono (fun a j z => by unfold gT; omega)) (fun a j z => f a j (by unfold byS at z; omega)) (fun q hq => ?_)
  have e := h.r q hq
  unfold rfI
  by_cases x : q = k
  · subst x
    rw [zI_s, zI_r (by omega), zI_s, e]
  · rw [zI_r (by omega), zI_d (by omega), zI_d (by omega), zI_r (by omega)]
    exact e
end IVF
