/-! row of table -/
section RWB
variable {n0 c : Nat} {K K' K2 : z_K} {I I' J : z_I} {L : z_L} {S : Nat → Nat → Prop} {np nr nb na t : Nat} {pid pts rid rp rk ln cx cy bid m : Nat → Nat} {par : Nat → Option Nat} {X Y : Nat → List Int32} {A : Int32 → Int32 → Option (Int32 × Int32)} {p0 p1 p2 : Int32}
theorem tabV_lt {mm s dy : Int32} : ∀ n, (∀ k, k < n → J 60 k = I 60 k ∧ J 61 k = I 61 k ∧ J 62 k = I 62 k ∧ J 63 k = I 63 k) → tabV J mm s dy n = tabV I mm s dy n
  | 0, _ => rfl
  | n + 1, h => by
    obtain ⟨a, b, c, d⟩ := h n (by omega)
    show (if J 60 n = mm then if J 61 n = s then if dy < J 63 n then tabV J mm s dy n else J 62 n else tabV J mm s dy n else tabV J mm s dy n) = (if I 60 n = mm then if I 61 n = s then if dy < I 63 n then tabV I mm s dy n else I 62 n else tabV I mm s dy n else tabV I mm s dy n)
    rw [tabV_lt n (fun k hk => h k (by omega)), a, b, c, d]
theorem Tch.lo {q : Nat} (e : ∀ a j, 152 ≤ a → a < q → J a j = I a j) : ∀ (c : List (Int32 × Int32)) (o : Option Nat), (∀ q', o = some q' → q' < q) → Tch K I c o → Tch K J c o := by
  intro c
  induction c with
  | nil => intro o _ h; exact h
  | cons x c ih =>
    intro o ho h
    obtain ⟨p, h0, h1, h2, h3, h4, h5, h6, h7⟩ := h
    have hp := ho p h0
    exact ⟨p, h0, h1, h2, h3, by rw [e p _ h1 hp]; exact h4, by rw [e p _ h1 hp]; exact h5, ih _ (fun q' z => by have := h7 q' z; omega) h6, h7⟩
theorem Tch.ot {ow : Nat → Nat} {k : Nat} (hk : k < 88) (hO : ∀ a q, 152 ≤ a → a < K.1 → (K.2.1 a).1 = 11 → ow a < 88 → K.2.2 a 2 = some q → ow q = ow a ∧ q < a ∧ 152 ≤ q ∧ (K.2.1 q).1 = 11) (e : ∀ a j, 152 ≤ a → ow a = k → J a j = I a j) : ∀ (c : List (Int32 × Int32)) (o : Option Nat), (∀ q', o = some q' → ow q' = k) → Tch K I c o → Tch K J c o := by
  intro c
  induction c with
  | nil => intro o _ h; exact h
  | cons x c ih =>
    intro o ho h
    obtain ⟨p, h0, h1, h2, h3, h4, h5, h6, h7⟩ := h
    have hp := ho p h0
    exact ⟨p, h0, h1, h2, h3, by rw [e p _ h1 hp]; exact h4, by rw [e p _ h1 hp]; exact h5, ih _ (fun q' z => by rw [(hO p q' h1 h2 h3 (by omega) z).1]; exact hp) h6, h7⟩
theorem Inv.tb (h : Inv c K I) (hW : Wd K I np nr nb na t pid pts rid rp rk ln cx cy bid m par X Y A) (hB : WdB I np A) (ht : t ≤ c) (h21 : t < 2100) (hc : ∀ r, r < nr → cx r = rid r + 1 ∧ cy r = rid r + 2) (hS : IvS K I np pid pts) (hE : IvE K I np pid) (hT : IvT I nb bid) (hM : IvM K I np pid) (hG : IvG I np pid)
    (kl : K.1 ≤ K2.1) (k2 : ∀ a, a < K.1 → K2.2.1 a = K.2.1 a) (kr : ∀ a j, a < K.1 → a ≠ 2 → K2.2.2 a j = K.2.2 a j) (hC1 : CLay K2) (hM1 : MLay K2) (f : Fz (fun a j => K.1 ≤ a ∨ (60 ≤ a ∧ a ≤ 63) ∨ (a = 59 ∧ j = 1) ∨ (152 ≤ a ∧ (K.2.1 a).1 = 11)) I J) (hTb : Tab K2 J (t + 1)) (hO : Own K2) (j1 : J 59 1 = nI (t + 1)) : Inv (c + 1) K2 J := by
  obtain ⟨g1, g2, g3, g4, g5, g6, g7, g8, g9, g10, g11, g12, g13, g14, g15, g16, g17⟩ := hW
  have pl : ∀ p, p < np → 152 ≤ pid p ∧ pid p + 6 < K.1 := fun p hp => ⟨g4.ge hp, g4.lt hp⟩
  have bl : ∀ p, p < nb → 152 ≤ bid p ∧ bid p + 7 < K.1 := fun p hp => ⟨g10.ge hp, g10.lt hp⟩
  have rl : ∀ r, r < nr → 152 ≤ rid r ∧ rid r + 2 < K.1 := fun r hr => by
    obtain ⟨d1, d2, d3, d4, d5, d6, d7, d8, d9⟩ := g7.2.2.2.1 r hr
    obtain ⟨a1, a2, a3, a4, a5, b1, b2, b3, b4, b5, c1, c2, c3, c4, c5⟩ := g8 r hr
    have := hc r hr
    omega
  have er : ∀ a, a < 152 → a ≠ 59 → ¬ (60 ≤ a ∧ a ≤ 63) → J a = I a := fun a _ _ _ => funext fun j => f a j (by omega)
  have e0 : ∀ a j, a < 152 → ¬ (a = 59 ∧ j = 1) → ¬ (60 ≤ a ∧ a ≤ 63) → J a j = I a j := fun a j _ _ _ => f a j (by omega)
  have eh : ∀ a o, a < K.1 → 152 ≤ a → Hm K a o → (K.2.1 o).1 ≠ 11 → J a = I a := fun a o z1 z2 q n => funext fun j => f a j (fun w => by
    have w2 : (K.2.1 a).1 = 11 := by omega
    have := q.u (Hm.me (o := a) (by omega))
    rw [this] at n
    exact n w2)
  have ep : ∀ p x, p < np → x ≤ 6 → J (pid p + x) = I (pid p + x) := fun p x hp hx => by have := pl p hp; exact eh _ (pid p) (by omega) (by omega) (hm_p g4 hp hx) (by rw [g4.cls hp]; omega)
  have eb : ∀ p x, p < nb → x ≤ 7 → J (bid p + x) = I (bid p + x) := fun p x hp hx => by have := bl p hp; exact eh _ (bid p) (by omega) (by omega) (hm_b g10 hp hx) (by rw [g10.cls hp]; omega)
  have eR : ∀ r x, r < nr → x ≤ 2 → J (rid r + x) = I (rid r + x) := fun p x hp hx => by have := rl p hp; exact eh _ (rid p) (by omega) (by omega) (hm_r g7 g8 hc hp hx) (by rw [(g7.2.2.2.1 p hp).2.2.2.2.2.2.2.1]; omega)
  have o : ∀ {P : Nat → Nat → Nat → Prop}, (∀ a j o, (K.2.1 o).1 = 11 → P a j o) → ∀ (a j : Nat), (K.1 ≤ a ∨ (60 ≤ a ∧ a ≤ 63) ∨ (a = 59 ∧ j = 1) ∨ (152 ≤ a ∧ (K.2.1 a).1 = 11)) → 152 ≤ a → a < K.1 → ∃ o, Hm K a o ∧ P a j o := fun q a j y z z2 => by
    have w : (K.2.1 a).1 = 11 := by omega
    exact ⟨a, Hm.me (by omega), q a j a w⟩
  have hWB : WdB J np A := by
    unfold WdB at hB ⊢
    rw [er 70 (by omega) (by omega) (by omega), er 71 (by omega) (by omega) (by omega), er 73 (by omega) (by omega) (by omega), er 74 (by omega) (by omega) (by omega)]
    exact hB
  refine ⟨np, nb, pid, pts, bid, ⟨nr, na, t + 1, rid, rp, rk, ln, cx, cy, m, par, X, Y, A, ⟨hC1, hM1, by omega, g4.k2 kl k2 (fun p _ => kr 4 p (by omega) (by omega)) (fun p j hp => kr _ _ (by have := pl p hp; omega) (by have := pl p hp; omega)), g5.ag (e0 0 8 (by omega) (by omega) (by omega)) (e0 59 9 (by omega) (by omega) (by omega)) (er 67 (by omega) (by omega) (by omega)) (fun i hi => by rw [show J (pid i) = I (pid i) from ep i 0 hi (by omega)]), g6.ag (fun q hq => kr _ _ (by have := pl q hq; omega) (by have := pl q hq; omega)) (er 66 (by omega) (by omega) (by omega)) (er 68 (by omega) (by omega) (by omega)) (fun q hq => by rw [show J (pid q) = I (pid q) from ep q 0 hq (by omega)]; exact ⟨rfl, rfl⟩), g7.ag kl k2 (fun r hr => kr _ _ (by have := rl r hr; omega) (by have := rl r hr; omega)) (fun p k hp _ => kr _ _ (by have := pl p hp; omega) (by have := pl p hp; omega)) (e0 0 9 (by omega) (by omega) (by omega)) (e0 59 22 (by omega) (by omega) (by omega)) (er 79 (by omega) (by omega) (by omega)) (er 80 (by omega) (by omega) (by omega)) (er 81 (by omega) (by omega) (by omega)) (fun r hr => by rw [show J (rid r) = I (rid r) from eR r 0 hr (by omega)]), g8.ag kl k2 (fun r hr => by have := rl r hr; exact ⟨kr _ _ (by omega) (by omega), kr _ _ (by omega) (by omega)⟩) (er 77 (by omega) (by omega) (by omega)) (er 78 (by omega) (by omega) (by omega)) (fun r hr => by rw [(hc r hr).1, (hc r hr).2]; exact ⟨eR r 1 hr (by omega), eR r 2 hr (by omega)⟩), g9.ag (fun a _ _ => er a (by omega) (by omega) (by omega)) (fun p x hp _ hx => ep p x hp hx), g10.k2 kl k2 (fun p _ => kr 3 p (by omega) (by omega)) (fun p j hp => kr _ _ (by have := bl p hp; omega) (by have := bl p hp; omega)), ⟨by rw [e0 0 4 (by omega) (by omega) (by omega)]; exact g11.1, by rw [e0 59 6 (by omega) (by omega) (by omega)]; exact g11.2⟩, g12.ag (e0 0 5 (by omega) (by omega) (by omega)) (e0 59 49 (by omega) (by omega) (by omega)) (fun a _ _ => er a (by omega) (by omega) (by omega)) (fun i hi => ⟨by rw [show J (bid i) = I (bid i) from eb i 0 hi (by omega)], eb i 2 hi (by omega), eb i 3 hi (by omega), eb i 4 hi (by omega)⟩), by rw [e0 0 0 (by omega) (by omega) (by omega), e0 59 0 (by omega) (by omega) (by omega)]; exact g13, j1, by omega, hTb, g17.ag (er 64 (by omega) (by omega) (by omega)) (er 65 (by omega) (by omega) (by omega)) (fun i hi => ⟨by rw [show J (bid i) = I (bid i) from eb i 0 hi (by omega)], eb i 1 hi (by omega)⟩)⟩, hWB, ⟨by omega, hO⟩, hc⟩, hS.fz kl k2 (fun j => kr 21 j (by omega) (by omega)) (fun a j z z1 _ => kr a j z1 (by omega)) f (fun a j z => by unfold smS at z; omega) (o (fun a j o z => by omega)), hE.fz kl k2 (fun j => kr 51 j (by omega) (by omega)) (fun a j z z1 _ => kr a j z1 (by omega)) f (fun a j z => by unfold edS at z; omega) (o (fun a j o z => by omega)), hT.fz g10 f (fun a j z => by unfold trM2 at z; omega) (o (fun a j o z => by omega)), hM.fz (fun j => kr 27 j (by omega) (by omega)) f (fun a j z => by unfold mkS at z; omega), h.vC.fz f (fun a j z => by unfold clS at z; omega), h.vB.fz f (fun a j z => by unfold byS at z; omega), h.vX.fz f (fun a j z => by unfold twS at z; omega), h.vK.fz f (fun a j z => by unfold cdS at z; omega), h.vN.fz f (fun a j z => by unfold seS at z; omega), hG.fz g4 f (fun j => by omega) (o (fun a j o z => by omega)), h.vD.fz f (by omega) (h.vD.2.fz f (fun a j z => by unfold zzS at z; omega)), fun k hk => ?_⟩
  rw [f 1 k (by omega), f 75 k (by omega)]
  exact h.r k hk
theorem rw_table (h : Inv c K I) (h512 : c < 512) : OpU n0 xX12_table xX13_table [.int p0, .int p1, .int p2] K I L (Iv (c + 1)) := by
  have h' := h
  obtain ⟨hC0, hM0⟩ := h.lay
  obtain ⟨np, nb, pid, pts, bid, hA, hS, hE, hT, hM, _, _, _, _, _, hG, _, _⟩ := h
  have h152 := hA.lay.2.2
  obtain ⟨nr, na, t, rid, rp, rk, ln, cx, cy, m, par, X, Y, A, hW, hB, ⟨htc, ow, ow1, ow2⟩, hc⟩ := hA
  have hW' := hW
  obtain ⟨g1, g2, g3, g4, g5, g6, g7, g8, g9, g10, g11, g12, g13, g14, g15, g16, g17⟩ := hW'
  refine (op_table (d := 0) (P := Iv (c + 1)) hC0 hM0 h152 g13 g14 (by omega) g16 h'.hr (fun i j q hi hj _ _ hq hq1 hq2 => ?_) (fun i j hi hj _ _ hno K1 I1 L1 hx c11 cr i0 i1 => ?_)).U (by omega) (by omega) (by omega) (by omega)
  · obtain ⟨o1, o2, o3, o4⟩ := ow1 _ q (by omega) hq
    generalize hJ : logI (zI I q 1 p2) t (nI i) (nI j) p2 (I 59 0) = J
    have f : Fz (fun a k => (a = q ∧ k = 1) ∨ (60 ≤ a ∧ a ≤ 63 ∧ k = t) ∨ (a = 59 ∧ k = 1)) I J := by
      rw [← hJ]
      unfold logI
      refine Fz.z (Fz.z (Fz.z (Fz.z (Fz.z (Fz.z Fz.rfl' ?_) ?_) ?_) ?_) ?_) ?_ <;> omega
    have j60 : J 60 t = nI i := by rw [← hJ]; simp [logI, zI_if]
    have j61 : J 61 t = nI j := by rw [← hJ]; simp [logI, zI_if]
    have j62 : J 62 t = p2 := by rw [← hJ]; simp [logI, zI_if]
    have j63 : J 63 t = I 59 0 := by rw [← hJ]; simp [logI, zI_if]
    have j1 : J 59 1 = nI (t + 1) := by rw [← hJ]; simp [logI, zI_if]
    have jq : J q 1 = p2 := by rw [← hJ]; unfold logI; rw [zI_r (by omega), zI_r (by omega), zI_r (by omega), zI_r (by omega), zI_r (by omega), zI_s]
    clear hJ
    have tv : ∀ mm s dy, tabV J mm s dy t = tabV I mm s dy t := fun mm s dy => tabV_lt t (fun k hk => ⟨f 60 k (by omega), f 61 k (by omega), f 62 k (by omega), f 63 k (by omega)⟩)
    refine h'.tb hW hB htc (by omega) hc hS hE hT hM hG (Nat.le_refl _) (fun _ _ => rfl) (fun _ _ _ _ => rfl) hC0 hM0 (f.mono (fun a k z => ?_)) (fun mm s hm hs => ?_) ⟨ow, ow1, ow2⟩ j1
    · rcases z with ⟨z, _⟩ | z | z
      · subst z; exact Or.inr (Or.inr (Or.inr ⟨o3, o4⟩))
      · omega
      · omega
    · have tn : ∀ dy, tabV J (nI mm) (nI s) dy (t + 1) = if nI i = nI mm then if nI j = nI s then if dy < I 59 0 then tabV I (nI mm) (nI s) dy t else p2 else tabV I (nI mm) (nI s) dy t else tabV I (nI mm) (nI s) dy t := fun dy => by
        show (if J 60 t = nI mm then if J 61 t = nI s then if dy < J 63 t then tabV J (nI mm) (nI s) dy t else J 62 t else tabV J (nI mm) (nI s) dy t else tabV J (nI mm) (nI s) dy t) = _
        rw [tv, j60, j61, j62, j63]
      by_cases y : mm = i ∧ s = j
      · obtain ⟨y1, y2⟩ := y
        subst y1; subst y2
        obtain ⟨c0, q1, q2, q3⟩ := g16 mm s hm hs
        cases c0 with
        | nil => rw [hq] at q1; cases q1
        | cons e c' =>
          obtain ⟨p, u0, u1, u2, u3, u4, u5, u6, u7⟩ := q1
          have ep : p = q := by rw [hq] at u0; exact (Option.some.inj u0).symm
          subst ep
          refine ⟨(I 59 0, p2) :: c', ⟨p, u0, u1, u2, u3, by rw [f p 0 (by omega)]; exact hq2, jq, Tch.lo (q := p) (I := I) ?_ c' _ u7 ?_, u7⟩, fun dy => ?_, fun x hx => ?_⟩
          · exact fun a k z1 z2 => f a k (by omega)
          · exact u6
          · rw [tn, if_pos rfl, if_pos rfl]
            show (if dy < I 59 0 then numV c' dy else p2) = _
            by_cases w : dy < I 59 0
            · rw [if_pos w, if_pos w, ← q2 dy]
              show _ = if dy < e.1 then numV c' dy else e.2
              rw [← u4, hq2, if_pos w]
            · rw [if_neg w, if_neg w]
          · rw [f 59 0 (by omega)]
            rcases List.mem_cons.mp hx with w | w
            · rw [w]; exact Int.le_refl _
            · exact q3 x (List.mem_cons_of_mem _ w)
      · obtain ⟨c0, q1, q2, q3⟩ := g16 mm s hm hs
        have ne : 11 * mm + s ≠ 11 * i + j := by omega
        refine ⟨c0, Tch.ot (ow := ow) (k := 11 * mm + s) (by omega) ow2 ?_ c0 _ (fun q' z => (ow1 _ q' (by omega) z).1) q1, fun dy => ?_, fun x hx => by rw [f 59 0 (by omega)]; exact q3 x hx⟩
        · intro a k z1 z2
          refine f a k (fun w => ?_)
          have w2 : a = q := by omega
          subst w2
          omega
        · rw [tn, q2 dy]
          by_cases w1 : nI i = nI mm
          · rw [if_pos w1]
            by_cases w2 : nI j = nI s
            · have a1 := z_nat (x := nI i) rfl w1 (by omega) (by omega)
              have a2 := z_nat (x := nI j) rfl w2 (by omega) (by omega)
              exact absurd ⟨a1.symm, a2.symm⟩ y
            · rw [if_neg w2]
          · rw [if_neg w1]
  · obtain ⟨_, x1, x2, x3, x4⟩ := hx.sh
    generalize hJ : logI I1 t (nI i) (nI j) p2 (I 59 0) = J
    have f0 : Fz (fun a k => K.1 ≤ a) I I1 := fun a k z => by rw [x4 a (by omega)]
    have f : Fz (fun a k => K.1 ≤ a ∨ (60 ≤ a ∧ a ≤ 63 ∧ k = t) ∨ (a = 59 ∧ k = 1)) I J := by
      rw [← hJ]
      unfold logI
      refine Fz.z (Fz.z (Fz.z (Fz.z (Fz.z (f0.mono (fun a k z => Or.inl z)) ?_) ?_) ?_) ?_) ?_ <;> omega
    have j60 : J 60 t = nI i := by rw [← hJ]; simp [logI, zI_if]
    have j61 : J 61 t = nI j := by rw [← hJ]; simp [logI, zI_if]
    have j62 : J 62 t = p2 := by rw [← hJ]; simp [logI, zI_if]
    have j63 : J 63 t = I 59 0 := by rw [← hJ]; simp [logI, zI_if]
    have j1 : J 59 1 = nI (t + 1) := by rw [← hJ]; simp [logI, zI_if]
    have jn : ∀ k, J K.1 k = I1 K.1 k := fun k => by rw [← hJ]; unfold logI; rw [zI_r (by omega), zI_r (by omega), zI_r (by omega), zI_r (by omega), zI_r (by omega)]
    clear hJ
    have tv : ∀ mm s dy, tabV J mm s dy t = tabV I mm s dy t := fun mm s dy => tabV_lt t (fun k hk => ⟨f 60 k (by omega), f 61 k (by omega), f 62 k (by omega), f 63 k (by omega)⟩)
    have kr : ∀ a k, a < K.1 → a ≠ 2 → (zR K1 2 (11 * i + j) (some K.1)).2.2 a k = K.2.2 a k := fun a k z1 z2 => by rw [zR_ne z2, x3 a z1]
    have hC1 : CLay (zR K1 2 (11 * i + j) (some K.1)) := CLay.zR (hC0.ext (by omega) (fun a ha => x2 a (by omega)) (fun a ha => x3 a (by omega))) (by decide)
    have hM1 : MLay (zR K1 2 (11 * i + j) (some K.1)) := MLay.zR (hM0.ext (by omega) (fun a ha => x2 a (by omega)) (x3 59 (by omega))) (by omega)
    have kl : K.1 ≤ K1.1 := by omega
    have tk : ∀ (c : List (Int32 × Int32)) (o : Option Nat), Tch K I c o → Tch (zR K1 2 (11 * i + j) (some K.1)) J c o := Tch.k2 kl x2 (fun a k z1 z2 _ => kr a k z2 (by omega)) (fun a k z1 z2 _ => f a k (by omega))
    have kn : (zR K1 2 (11 * i + j) (some K.1)).2.2 K.1 2 = K.2.2 2 (11 * i + j) := by rw [zR_ne (by omega)]; exact cr
    refine h'.tb (K2 := zR K1 2 (11 * i + j) (some K.1)) hW hB htc (by omega) hc hS hE hT hM hG kl x2 kr hC1 hM1 (f.mono (fun a k z => by omega)) (fun mm s hm hs => ?_) ⟨fun a => if a = K.1 then 11 * i + j else ow a, fun k q hk e => ?_, fun a q a1 a2 a3 a4 e => ?_⟩ j1
    · have tn : ∀ dy, tabV J (nI mm) (nI s) dy (t + 1) = if nI i = nI mm then if nI j = nI s then if dy < I 59 0 then tabV I (nI mm) (nI s) dy t else p2 else tabV I (nI mm) (nI s) dy t else tabV I (nI mm) (nI s) dy t := fun dy => by
        show (if J 60 t = nI mm then if J 61 t = nI s then if dy < J 63 t then tabV J (nI mm) (nI s) dy t else J 62 t else tabV J (nI mm) (nI s) dy t else tabV J (nI mm) (nI s) dy t) = _
        rw [tv, j60, j61, j62, j63]
      obtain ⟨c0, q1, q2, q3⟩ := g16 mm s hm hs
      by_cases y : mm = i ∧ s = j
      · obtain ⟨y1, y2⟩ := y
        subst y1; subst y2
        refine ⟨(I 59 0, p2) :: c0, ⟨K.1, zR_e, h152, by show K.1 < K1.1; omega, c11, by rw [jn]; exact i0, by rw [jn]; exact i1, by rw [kn]; exact tk c0 _ q1, fun q' z => by rw [kn] at z; exact (ow1 _ q' (by omega) z).2.1⟩, fun dy => ?_, fun x hx => ?_⟩
        · rw [tn, if_pos rfl, if_pos rfl, ← q2 dy]
          rfl
        · rw [f 59 0 (by omega)]
          rcases List.mem_cons.mp hx with w | w
          · rw [w]; exact Int.le_refl _
          · exact q3 x w
      · have ne : 11 * mm + s ≠ 11 * i + j := by omega
        refine ⟨c0, by rw [zR_o ne, x3 2 (by omega)]; exact tk c0 _ q1, fun dy => ?_, fun x hx => by rw [f 59 0 (by omega)]; exact q3 x hx⟩
        rw [tn, q2 dy]
        by_cases w1 : nI i = nI mm
        · rw [if_pos w1]
          by_cases w2 : nI j = nI s
          · have a1 := z_nat (x := nI i) rfl w1 (by omega) (by omega)
            have a2 := z_nat (x := nI j) rfl w2 (by omega) (by omega)
            exact absurd ⟨a1.symm, a2.symm⟩ y
          · rw [if_neg w2]
        · rw [if_neg w1]
    · by_cases y : k = 11 * i + j
      · subst y
        rw [zR_e] at e
        cases e
        exact ⟨if_pos rfl, by show K.1 < K1.1; omega, h152, c11⟩
      · rw [zR_o y, x3 2 (by omega)] at e
        obtain ⟨e1, e2, e3, e4⟩ := ow1 k q hk e
        exact ⟨by simp only [if_neg (show q ≠ K.1 by omega)]; exact e1, by show q < K1.1; omega, e3, by show (K1.2.1 q).1 = 11; rw [x2 q e2]; exact e4⟩
    · by_cases y : a = K.1
      · subst y
        rw [kn] at e
        obtain ⟨e1, e2, e3, e4⟩ := ow1 _ q (by omega) e
        simp only [if_true, if_neg (show q ≠ K.1 by omega)]
        exact ⟨e1, e2, e3, by show (K1.2.1 q).1 = 11; rw [x2 q e2]; exact e4⟩
      · have a2' : a < K1.1 := a2
        have hlt : a < K.1 := by omega
        simp only [if_neg y] at a4 ⊢
        have a3' : (K1.2.1 a).1 = 11 := a3
        rw [x2 a hlt] at a3'
        rw [kr a 2 hlt (by omega)] at e
        obtain ⟨e1, e2, e3, e4⟩ := ow2 a q a1 hlt a3' a4 e
        simp only [if_neg (show q ≠ K.1 by omega)]
        exact ⟨e1, e2, e3, by show (K1.2.1 q).1 = 11; rw [x2 q (by omega)]; exact e4⟩
end RWB
