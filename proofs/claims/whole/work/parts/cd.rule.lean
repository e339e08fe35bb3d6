/-! row of rule -/
section RWA
variable {n0 c : Nat} {K K' : z_K} {I I' J : z_I} {L : z_L} {S : Nat → Nat → Prop} {np nb t n : Nat} {pid bid : Nat → Nat} {T T' : Nat → Int32} {pt p0 p1 p2 : Int32}
theorem nxT_ag (h : ∀ k, k < n → T' k = T k) : nxT T' n = nxT T n := funext fun i => by
  unfold nxT
  by_cases g : i < n
  · rw [if_pos g, if_pos g, h i g]
  · rw [if_neg g, if_neg g]
theorem numR_ag (e : nxT T' n = nxT T n) : ∀ k i v, numR T' n k i v = numR T n k i v := by
  intro k
  induction k with
  | zero => intro i v; rfl
  | succ k ih =>
    intro i v
    show (if ¬ nxT T' n i < 48 ∧ ¬ 57 < nxT T' n i then numR T' n k (i + 1) (v * 10 + nxT T' n i - 48) else (i, v)) = (if ¬ nxT T n i < 48 ∧ ¬ 57 < nxT T n i then numR T n k (i + 1) (v * 10 + nxT T n i - 48) else (i, v))
    rw [e, ih]
theorem pS_ag (e : nxT T' n = nxT T n) : ∀ f, pS T' n pt f = pS T n pt f := by
  intro f
  induction f with
  | zero => funext kd d i; rfl
  | succ f ih =>
    funext kd d i
    simp only [pS, e, ih, numR_ag e]
theorem pT_ag (h : ∀ k, k < n → T' k = T k) : pT T' n pt = pT T n pt := by
  have e := nxT_ag h
  unfold pT
  rw [pS_ag e, e]
theorem PcK.k2 (h : PcK K np pid) (k1 : K.1 ≤ K'.1) (k2 : ∀ a, a < K.1 → K'.2.1 a = K.2.1 a) (k4 : ∀ p, p < np → K'.2.2 4 p = K.2.2 4 p) (k5 : ∀ p j, p < np → K'.2.2 (pid p) j = K.2.2 (pid p) j) : PcK K' np pid := by
  refine ⟨h.1, fun p hp => ?_, h.2.2⟩
  obtain ⟨a0, a1, a2, a3, a4, a5, a6, a7, a8, a9, b1, b2, b3, b4, b5, b6⟩ := h.2.1 p hp
  refine ⟨by rw [k4 p hp]; exact a0, a1, by omega, by rw [k2 _ (by omega)]; exact a3, by rw [k2 _ (by omega)]; exact a4, by rw [k2 _ (by omega)]; exact a5, by rw [k2 _ (by omega)]; exact a6, by rw [k2 _ (by omega)]; exact a7, by rw [k2 _ (by omega)]; exact a8, by rw [k2 _ (by omega)]; exact a9, ?_⟩
  rw [k5 p _ hp, k5 p _ hp, k5 p _ hp, k5 p _ hp, k5 p _ hp, k5 p _ hp]
  exact ⟨b1, b2, b3, b4, b5, b6⟩
theorem BdK.k2 (h : BdK K nb bid) (k1 : K.1 ≤ K'.1) (k2 : ∀ a, a < K.1 → K'.2.1 a = K.2.1 a) (k3 : ∀ p, p < nb → K'.2.2 3 p = K.2.2 3 p) (k5 : ∀ p j, p < nb → K'.2.2 (bid p) j = K.2.2 (bid p) j) : BdK K' nb bid := by
  refine ⟨h.1, fun p hp => ?_, h.2.2⟩
  obtain ⟨a0, a1, a2, a3, a4, a5, a6, a7, a8, a9, a10, b1, b2, b3, b4, b5, b6, b7⟩ := h.2.1 p hp
  refine ⟨by rw [k3 p hp]; exact a0, a1, by omega, by rw [k2 _ (by omega)]; exact a3, by rw [k2 _ (by omega)]; exact a4, by rw [k2 _ (by omega)]; exact a5, by rw [k2 _ (by omega)]; exact a6, by rw [k2 _ (by omega)]; exact a7, by rw [k2 _ (by omega)]; exact a8, by rw [k2 _ (by omega)]; exact a9, by rw [k2 _ (by omega)]; exact a10, ?_⟩
  rw [k5 p _ hp, k5 p _ hp, k5 p _ hp, k5 p _ hp, k5 p _ hp, k5 p _ hp, k5 p _ hp]
  exact ⟨b1, b2, b3, b4, b5, b6, b7⟩
theorem Tch.k2 (k1 : K.1 ≤ K'.1) (k2 : ∀ a, a < K.1 → K'.2.1 a = K.2.1 a) (k5 : ∀ a j, 152 ≤ a → a < K.1 → (K.2.1 a).1 = 11 → K'.2.2 a j = K.2.2 a j) (e : ∀ a j, 152 ≤ a → a < K.1 → (K.2.1 a).1 = 11 → I' a j = I a j) : ∀ (c : List (Int32 × Int32)) (o : Option Nat), Tch K I c o → Tch K' I' c o := by
  intro c
  induction c with
  | nil => intro o h; exact h
  | cons x c ih =>
    intro o h
    obtain ⟨q, h0, h1, h2, h3, h4, h5, h6, h7⟩ := h
    refine ⟨q, h0, h1, by omega, by rw [k2 q h2]; exact h3, by rw [e q _ h1 h2 h3]; exact h4, by rw [e q _ h1 h2 h3]; exact h5, ?_, ?_⟩
    · rw [k5 q _ h1 h2 h3]; exact ih _ h6
    · rw [k5 q _ h1 h2 h3]; exact h7
theorem lastR_up {rp rk rp' rk' : Nat → Nat} {p k : Nat} : ∀ n, (∀ r, r < n → rp' r = rp r ∧ rk' r = rk r) → lastR rp' rk' p k n = lastR rp rk p k n
  | 0, _ => rfl
  | n + 1, h => by
    show (if rp' n = p ∧ rk' n = k then some n else lastR rp' rk' p k n) = (if rp n = p ∧ rk n = k then some n else lastR rp rk p k n)
    rw [lastR_up n (fun r hr => h r (by omega)), (h n (by omega)).1, (h n (by omega)).2]
theorem lastR_ltn {rp rk : Nat → Nat} {p k : Nat} : ∀ n a, lastR rp rk p k n = some a → a < n
  | 0, _, h => by cases h
  | n + 1, a, h => by
    have h2 : (if rp n = p ∧ rk n = k then some n else lastR rp rk p k n) = some a := h
    by_cases g : rp n = p ∧ rk n = k
    · rw [if_pos g] at h2; cases h2; omega
    · rw [if_neg g] at h2; have := lastR_ltn n a h2; omega
theorem omr_up {f g : Nat → Nat} {o : Option Nat} {n : Nat} (h : ∀ a, o = some a → a < n) (e : ∀ a, a < n → f a = g a) : omr f o = omr g o := by
  cases o with
  | none => rfl
  | some a => show some (f a) = some (g a); rw [e a (h a rfl)]
theorem rl_g {a j : Nat} (h : rlS a j) (n1 : ¬ (a = 5 ∧ j = 1)) (n2 : ¬ (a = 59 ∧ j = 21)) : gS K a j := by
  have g59 : a = 59 → ((28 ≤ j ∧ j ≤ 34) ∨ j = 38 ∨ j = 39 ∨ j = 41 ∨ (43 ≤ j ∧ j ≤ 47)) → gS K a j := fun z w => Or.inr (Or.inr (Or.inr (Or.inr (Or.inr (Or.inl ⟨z, by omega⟩)))))
  rcases h with (h | h) | (h | h) | h | h
  · exact Or.inl h
  · exact Or.inr (Or.inl h)
  · rcases h with h | h
    · exact g59 h.1 (by omega)
    · exact Or.inr (Or.inr (Or.inr (Or.inr (Or.inr (Or.inr (Or.inr (Or.inl h)))))))
  · exact g59 h.1 (by omega)
  · exact absurd h n1
  · exact g59 h.1 (by omega)
def rS2 (a j : Nat) : Prop := (a = 5 ∧ 1 ≤ j) ∨ a = 7 ∨ (a = 59 ∧ 21 ≤ j ∧ j ≤ 47) ∨ a = 86 ∨ (a = 0 ∧ j = 9) ∨ (77 ≤ a ∧ a ≤ 81)
theorem ru_2 {a j : Nat} (h : ruS a j) : rS2 a j := by
  unfold ruS rlS rdS rtS rrS at h
  unfold rS2
  omega
theorem rw_rule (h : Inv c K I) : OpU n0 xX12_rule xX13_rule [.int p0, .int p1, .int p2] K I L (Iv (c + 1)) := by
  have h' := h
  obtain ⟨hC0, hM0⟩ := h.lay
  obtain ⟨nx, hX⟩ := h.vX
  obtain ⟨np, nb, pid, pts, bid, hA, hS, hE, hT, hM, _, _, _, _, _, hG, _, _⟩ := h
  have h152 := hA.lay.2.2
  obtain ⟨nr, na, t, rid, rp, rk, ln, cx, cy, m, par, X, Y, A, ⟨g1, g2, g3, g4, g5, g6, g7, g8, g9, g10, g11, g12, g13, g14, g15, g16, g17⟩, hB, ht⟩ := hA
  refine (op_rule (d := 0) (e := 0) (P := Iv (c + 1)) hC0 hM0 h152 g4 g5 hG g13 g7.2.1 g7.2.2.1 g7.1 hX h'.hr (fun J L1 hf e1 e2 _ => ?_) (fun h120 e1 e2 i j x y K1 J L1 hi hj hp hl hR => ?_)).U (by omega) (by omega) (by omega) (by omega)
  · have f : Fz twS I (zI (zI I 5 1 0) 59 21 0) := by
      refine Fz.z (Fz.z Fz.rfl' ?_) ?_ <;> (unfold twS; omega)
    have h0 : Inv (c + 1) K (zI (zI I 5 1 0) 59 21 0) := h'.st f (fun a j z => by unfold twS at z; unfold stS wdS smS edS trM2; omega) (fun np pid z => z.fz (fun _ => rfl) f (fun a j y => by unfold mkS at y; unfold twS; omega)) (h'.vC.fz f (fun a j y => by unfold clS at y; unfold twS; omega)) (h'.vB.fz f (fun a j y => by unfold byS at y; unfold twS; omega)) ⟨0, by rw [zI_r (by omega), zI_s]; rfl, by rw [zI_s]; rfl, by omega, fun k hk => by omega⟩ (h'.vK.fz f (fun a j y => by unfold cdS at y; unfold twS; omega)) (h'.vN.fz f (fun a j y => by unfold seS at y; unfold twS; omega))
    refine h0.fX KD.rf (fun a j z => ?_)
    by_cases y1 : a = 5 ∧ j = 1
    · rw [y1.1, y1.2, e1, zI_r (by omega), zI_s]
    by_cases y2 : a = 59 ∧ j = 21
    · rw [y2.1, y2.2, e2, zI_s]
    rw [zI_d y2, zI_d y1]
    exact hf a j (fun w => z (gX_s (rl_g w y1 y2)))
  · obtain ⟨k1, k2, c6, s1, s2, kr, kh, kx1, kx2, kx3, f0, i0, sx, sy, c9, c22, t5, t21, e77, e78, e79, e80, e81, eL⟩ := hR
    have gi := g4.ge hi
    have gl := g4.lt hi
    have cli := (g4.s hi).1
    have hm1 := hm_p g4 hi (show 1 ≤ 6 by omega)
    have pt10 := (g5.2.2 i hi).2.2.2
    have f : Fz (fun a j => K.1 ≤ a ∨ rS2 a j) I J := fun a j z => f0 a (by omega) j (fun w => z (Or.inr (ru_2 w)))
    have kl : K.1 ≤ K1.1 := by omega
    have hC1 : CLay K1 := hC0.ext kl (fun a ha => k2 a (by omega)) (fun a ha => funext fun x => kr a (by omega) x (by omega))
    have hM1 : MLay K1 := hM0.ext kl (fun a ha => k2 a (by omega)) (funext fun x => kr 59 (by omega) x (by omega))
    have pl : ∀ p, p < np → 152 ≤ pid p ∧ pid p + 6 < K.1 := fun p hp => ⟨g4.ge hp, g4.lt hp⟩
    have bl : ∀ p, p < nb → 152 ≤ bid p ∧ bid p + 7 < K.1 := fun p hp => ⟨g10.ge hp, g10.lt hp⟩
    have rl : ∀ r, r < nr → 152 ≤ rid r ∧ rid r + 2 < K.1 := fun r hr => by
      obtain ⟨d1, d2, d3, d4, d5, d6, d7, d8, d9⟩ := g7.2.2.2.1 r hr
      obtain ⟨a1, a2, a3, a4, a5, b1, b2, b3, b4, b5, c1, c2, c3, c4, c5⟩ := g8 r hr
      have := ht.2 r hr
      omega
    have k36 : ∀ a t, a < K.1 → (K.2.1 a).1 ≠ 36 → K1.2.2 a t = K.2.2 a t := fun a t z n => kr a z t (fun w => n (by rw [w.1, cli]))
    have kp : ∀ p j, p < np → K1.2.2 (pid p) j = K.2.2 (pid p) j := fun p j hp => k36 _ _ (by have := pl p hp; omega) (by rw [g4.cls hp]; omega)
    have kb : ∀ p j, p < nb → K1.2.2 (bid p) j = K.2.2 (bid p) j := fun p j hp => k36 _ _ (by have := bl p hp; omega) (by rw [g10.cls hp]; omega)
    have kR : ∀ r j, r < nr → K1.2.2 (rid r) j = K.2.2 (rid r) j := fun r j hr => k36 _ _ (by have := rl r hr; omega) (by rw [(g7.2.2.2.1 r hr).2.2.2.2.2.2.2.1]; omega)
    have ks : ∀ a j, a < 152 → K1.2.2 a j = K.2.2 a j := fun a j z => kr a (by omega) j (by omega)
    have er : ∀ a, a < K.1 → a ≠ 5 → a ≠ 7 → a ≠ 59 → a ≠ 86 → a ≠ 0 → ¬ (77 ≤ a ∧ a ≤ 81) → J a = I a := fun a _ _ _ _ _ _ _ => funext fun j => f a j (by unfold rS2; omega)
    have ep : ∀ p x, p < np → x ≤ 6 → J (pid p + x) = I (pid p + x) := fun p x hp hx => by have := pl p hp; exact er _ (by omega) (by omega) (by omega) (by omega) (by omega) (by omega) (by omega)
    have eb : ∀ p x, p < nb → x ≤ 7 → J (bid p + x) = I (bid p + x) := fun p x hp hx => by have := bl p hp; exact er _ (by omega) (by omega) (by omega) (by omega) (by omega) (by omega) (by omega)
    have eR : ∀ r x, r < nr → x ≤ 2 → J (rid r + x) = I (rid r + x) := fun p x hp hx => by have := rl p hp; exact er _ (by omega) (by omega) (by omega) (by omega) (by omega) (by omega) (by omega)
    have o : ∀ {P : Nat → Nat → Nat → Prop} (a j : Nat), (K.1 ≤ a ∨ rS2 a j) → 152 ≤ a → a < K.1 → ∃ o, Hm K a o ∧ P a j o := fun a j y z _ => by unfold rS2 at y; omega
    have hRl : RlK K1 J (nr + 1) np pid (fun r => if r = nr then K.1 else rid r) (fun r => if r = nr then i else rp r) (fun r => if r = nr then j else rk r) := by
      have up : ∀ p k q, q ≤ nr → lastR (fun r => if r = nr then i else rp r) (fun r => if r = nr then j else rk r) p k q = lastR rp rk p k q := fun p k q hq => lastR_up q (fun r hr => by simp only [if_neg (show r ≠ nr by omega)]; exact ⟨trivial, trivial⟩)
      have um : ∀ p k q, q ≤ nr → omr (fun r => if r = nr then K.1 else rid r) (lastR rp rk p k q) = omr rid (lastR rp rk p k q) := fun p k q hq => omr_up (n := nr) (fun a z => by have := lastR_ltn q a z; omega) (fun a ha => by simp only [if_neg (show a ≠ nr by omega)])
      refine ⟨by omega, c9, c22, fun r hr => ?_, fun p k hp' hk => ?_⟩
      · by_cases y : r = nr
        · subst y
          simp only [if_true]
          rw [up _ _ _ (Nat.le_refl _), um _ _ _ (Nat.le_refl _), e79, e80, e81, if_pos rfl, if_pos rfl, if_pos rfl]
          exact ⟨hi, by omega, rfl, rfl, i0, by omega, by omega, c6, by rw [kx3]; exact g7.2.2.2.2 i j hi (by omega)⟩
        · simp only [if_neg y]
          obtain ⟨d1, d2, d3, d4, d5, d6, d7, d8, d9⟩ := g7.2.2.2.1 r (by omega)
          rw [up _ _ _ (by omega), um _ _ _ (by omega), e79, e80, e81, if_neg y, if_neg y, if_neg y]
          exact ⟨d1, d2, d3, d4, by rw [show J (rid r) = I (rid r) from eR r 0 (by omega) (by omega)]; exact d5, d6, by omega, by rw [k2 _ d7]; exact d8, by rw [kR r _ (by omega)]; exact d9⟩
      · have u : lastR (fun r => if r = nr then i else rp r) (fun r => if r = nr then j else rk r) p k (nr + 1) = if i = p ∧ j = k then some nr else lastR rp rk p k nr := by
          show (if (if nr = nr then i else rp nr) = p ∧ (if nr = nr then j else rk nr) = k then some nr else lastR _ _ p k nr) = _
          rw [if_pos rfl, if_pos rfl, up _ _ _ (Nat.le_refl _)]
        rw [u]
        by_cases y : i = p ∧ j = k
        · rw [if_pos y, ← y.1, ← y.2, kh]
          show some K.1 = some (if nr = nr then K.1 else rid nr)
          rw [if_pos rfl]
        · rw [if_neg y, um _ _ _ (Nat.le_refl _), kr _ (by have := pl p hp'; omega) k (fun w => y ?_)]
          · exact g7.2.2.2.2 p k hp' hk
          · have := g4.dis (x := 1) (y := 1) hp' hi (by omega) (by omega) w.1
            exact ⟨this.1.symm, w.2.symm⟩
    have hRc : RlC K1 J (nr + 1) (fun r => if r = nr then K.1 else rid r) (fun r => if r = nr then j else rk r) (fun r => if r = nr then nx else ln r) (fun r => if r = nr then K.1 + 1 else cx r) (fun r => if r = nr then K.1 + 2 else cy r) (fun r => if r = nr then x else X r) (fun r => if r = nr then y else Y r) := by
      obtain ⟨x1, x2, x3, x4⟩ := hX
      intro r hr
      by_cases w : r = nr
      · subst w
        simp only [if_true]
        have e : ∀ k, k < nx → J 77 (60 * r + k) = I 6 k := fun k hk => by rw [e77, if_pos (by omega), Nat.add_sub_cancel_left]; exact ((x4 k hk).1).symm
        refine ⟨x3, by rw [e78, if_pos rfl], fun k hk => by rw [e k hk]; exact (x4 k hk).2, ?_, hl, by omega, by omega, s1, kx1, sx, by omega, by omega, s2, kx2, sy⟩
        rw [pT_ag (T := I 6) e]
        exact hp
      · simp only [if_neg w]
        have hr' : r < nr := by omega
        obtain ⟨a1, a2, a3, a4, a5, b1, b2, b3, b4, b5, c1, c2, c3, c4, c5⟩ := g8 r hr'
        have e : ∀ k, k < ln r → J 77 (60 * r + k) = I 77 (60 * r + k) := fun k hk => by rw [e77, if_neg (by omega)]
        obtain ⟨u1, u2⟩ := ht.2 r hr'
        refine ⟨a1, by rw [e78, if_neg w]; exact a2, fun k hk => by rw [e k hk]; exact a3 k hk, ?_, a5, b1, by omega, by rw [k2 _ b2]; exact b3, by rw [kR r _ hr']; exact b4, by rw [u1, eR r 1 hr' (by omega), ← u1]; exact b5, c1, by omega, by rw [k2 _ c2]; exact c3, by rw [kR r _ hr']; exact c4, by rw [u2, eR r 2 hr' (by omega), ← u2]; exact c5⟩
        rw [pT_ag (T := fun k => I 77 (60 * r + k)) e]
        exact a4
    have hTb : Tab K1 J t := by
      intro mm s hm hs'
      obtain ⟨c, q1, q2, q3⟩ := g16 mm s hm hs'
      have e6 : ∀ a, 60 ≤ a → a ≤ 63 → J a = I a := fun a _ _ => er a (by omega) (by omega) (by omega) (by omega) (by omega) (by omega) (by omega)
      refine ⟨c, ?_, fun dy => by rw [tabV_ag (e6 60 (by omega) (by omega)) (e6 61 (by omega) (by omega)) (e6 62 (by omega) (by omega)) (e6 63 (by omega) (by omega))]; exact q2 dy, fun x hx => by rw [f 59 0 (by unfold rS2; omega)]; exact q3 x hx⟩
      rw [ks 2 _ (by omega)]
      exact Tch.k2 kl k2 (fun a j z1 z2 z3 => k36 a j z2 (by rw [z3]; omega)) (fun a j z1 z2 z3 => f a j (by unfold rS2; omega)) c _ q1
    have hWB : WdB J np A := by
      unfold WdB at hB ⊢
      rw [er 70 (by omega) (by omega) (by omega) (by omega) (by omega) (by omega) (by omega), er 71 (by omega) (by omega) (by omega) (by omega) (by omega) (by omega) (by omega), er 73 (by omega) (by omega) (by omega) (by omega) (by omega) (by omega) (by omega), er 74 (by omega) (by omega) (by omega) (by omega) (by omega) (by omega) (by omega)]
      exact hB
    obtain ⟨z1, z2, z3, z4, z5, z6, z7⟩ : IvC J ∧ IvB J ∧ IvK J ∧ IvN J ∧ IvD J ∧ IvR J ∧ IvX J := by
      refine ⟨h'.vC.fz f (fun a j z => by unfold clS at z; unfold rS2; omega), h'.vB.fz f (fun a j z => by unfold byS at z; unfold rS2; omega), h'.vK.fz f (fun a j z => by unfold cdS at z; unfold rS2; omega), h'.vN.fz f (fun a j z => by unfold seS at z; unfold rS2; omega), h'.vD.fz f (by unfold rS2; omega) (h'.vD.2.fz f (fun a j z => by unfold zzS at z; unfold rS2; omega)), fun k hk => ?_, ⟨0, t5, t21, by omega, fun k hk => by omega⟩⟩
      rw [f 1 k (by unfold rS2; omega), f 75 k (by unfold rS2; omega)]
      exact h'.r k hk
    refine ⟨np, nb, pid, pts, bid, ⟨nr + 1, na, t, _, _, _, _, _, _, m, par, _, _, A, ⟨hC1, hM1, by omega, g4.k2 kl k2 (fun p _ => ks 4 p (by omega)) kp, g5.ag (f 0 8 (by unfold rS2; omega)) (f 59 9 (by unfold rS2; omega)) (er 67 (by omega) (by omega) (by omega) (by omega) (by omega) (by omega) (by omega)) (fun i hi => by rw [show J (pid i) = I (pid i) from ep i 0 hi (by omega)]), g6.ag (fun q hq => kp q 3 hq) (er 66 (by omega) (by omega) (by omega) (by omega) (by omega) (by omega) (by omega)) (er 68 (by omega) (by omega) (by omega) (by omega) (by omega) (by omega) (by omega)) (fun q hq => by rw [show J (pid q) = I (pid q) from ep q 0 hq (by omega)]; exact ⟨rfl, rfl⟩), hRl, hRc, g9.ag (fun a _ _ => er a (by omega) (by omega) (by omega) (by omega) (by omega) (by omega) (by omega)) (fun p x hp _ hx => ep p x hp hx), g10.k2 kl k2 (fun p _ => ks 3 p (by omega)) kb, ⟨by rw [f 0 4 (by unfold rS2; omega)]; exact g11.1, by rw [f 59 6 (by unfold rS2; omega)]; exact g11.2⟩, g12.ag (f 0 5 (by unfold rS2; omega)) (f 59 49 (by unfold rS2; omega)) (fun a _ _ => er a (by omega) (by omega) (by omega) (by omega) (by omega) (by omega) (by omega)) (fun i hi => ⟨by rw [show J (bid i) = I (bid i) from eb i 0 hi (by omega)], eb i 2 hi (by omega), eb i 3 hi (by omega), eb i 4 hi (by omega)⟩), by rw [f 0 0 (by unfold rS2; omega), f 59 0 (by unfold rS2; omega)]; exact g13, by rw [f 59 1 (by unfold rS2; omega)]; exact g14, g15, hTb, g17.ag (er 64 (by omega) (by omega) (by omega) (by omega) (by omega) (by omega) (by omega)) (er 65 (by omega) (by omega) (by omega) (by omega) (by omega) (by omega) (by omega)) (fun i hi => ⟨by rw [show J (bid i) = I (bid i) from eb i 0 hi (by omega)], eb i 1 hi (by omega)⟩)⟩, hWB, ⟨by omega, ht.1.2.ke kl k2 (fun j => ks 2 j (by omega)) (fun a j _ a2 a3 => k36 a j a2 (by rw [a3]; omega))⟩, fun r hr => ?_⟩, ?_, ?_, hT.fz g10 f (fun a j z => by unfold trM2 at z; unfold rS2; omega) o, hM.fz (fun j => ks 27 j (by omega)) f (fun a j z => by unfold mkS at z; unfold rS2; omega), z1, z2, z7, z3, z4, hG.fz g4 f (fun j => by unfold rS2; omega) o, z5, z6⟩
    · by_cases w : r = nr
      · simp only [if_pos w]; exact ⟨trivial, trivial⟩
      · simp only [if_neg w]; exact ht.2 r (by omega)
    · exact hS.fz kl k2 (fun j => ks 21 j (by omega)) (fun a j z z1 w => k36 a j z1 (by omega)) f (fun a j z => by unfold smS at z; unfold rS2; omega) o
    · exact hE.fz kl k2 (fun j => ks 51 j (by omega)) (fun a j z z1 w => k36 a j z1 (by omega)) f (fun a j z => by unfold edS at z; unfold rS2; omega) o
end RWA
