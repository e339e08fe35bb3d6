section OFR
variable {n0 d : Nat} {K K1 : z_K} {I : z_I} {L : z_L} {np nr nb na t : Nat} {pid pts rid rp rk ln cx cy bid m : Nat → Nat} {par : Nat → Option Nat} {X Y : Nat → List Int32} {A : Int32 → Int32 → Option (Int32 × Int32)} {p k r : Nat} {dy : Int32} {Q : z_q} {P : z_K → z_I → z_L → Prop} {p0 p1 p2 : Int32} {NP : Nat → Nat → Int32} {base : Nat → Int32} {sel : Nat → Option Nat}
theorem orF_0 {f : Nat → Int32} : ∀ n, (∀ q, q < n → f q = 0) → orF f n = 0 := by
  intro n
  induction n with
  | zero => intro _; rfl
  | succ n ih =>
    intro h
    show orF f n ||| f n = 0
    rw [ih (fun q hq => h q (by omega)), h n (by omega), or_z]
theorem rB_0 {nm : Nat → Int32} : rB nm k (0, 0) = 0 := by
  unfold rB
  show (0 : Int32) ||| orF (fun q => if tb 0 q = true then nm q else 0) k = 0
  rw [orF_0 k (fun q _ => by rw [tb_0]; rfl), or_z]
theorem nmO_un : ∀ n q, n ≤ q → nmO X Y sel base n q = base q := by
  intro n
  induction n with
  | zero => intro q _; rfl
  | succ n ih =>
    intro q hq
    have st : nmO X Y sel base (n + 1) q = nmO X Y sel base n q := by
      show (match sel n with | none => nmO X Y sel base n | some r => fun q => if q = n then _ else nmO X Y sel base n q) q = _
      cases sel n with
      | none => rfl
      | some r => exact if_neg (by omega)
    rw [st]; exact ih q (by omega)
theorem nmO_lo {n q : Nat} (hq : q < n) : nmO X Y sel base (n + 1) q = nmO X Y sel base n q := by
  show (match sel n with | none => nmO X Y sel base n | some r => fun q => if q = n then _ else nmO X Y sel base n q) q = _
  cases sel n with
  | none => rfl
  | some r => exact if_neg (by omega)
theorem nmO_n {n : Nat} (h : sel n = none) : nmO X Y sel base (n + 1) = nmO X Y sel base n := by
  show (match sel n with | none => nmO X Y sel base n | some r => fun q => if q = n then _ else nmO X Y sel base n q) = _
  rw [h]
theorem nmO_s {n r : Nat} (h : sel n = some r) : nmO X Y sel base (n + 1) n = cB (nmO X Y sel base n) 0 (X r) ||| cB (nmO X Y sel base n) 0 (Y r) := by
  show (match sel n with | none => nmO X Y sel base n | some r => fun q => if q = n then cB (nmO X Y sel base n) 0 (X r) ||| cB (nmO X Y sel base n) 0 (Y r) else nmO X Y sel base n q) n = _
  rw [h]
  exact if_pos rfl
/-- a rule read for what it names -/
theorem c13_readNm (hW : Wd K I np nr nb na t pid pts rid rp rk ln cx cy bid m par X Y A) (hr : r < nr) (hk : rk r = k) (hk10 : k < 10)
    (h : ∀ I' L', Fz rdr I I' → (∀ nm, rB nm k (I' 59 38, I' 59 39) = cB nm 0 (X r) ||| cB nm 0 (Y r)) → Q none I' L') : RM0 n0 xX13_readRule (d + 8) [.ref (n0 + 59), .int (nI r)] K I L Q := by
  have hM := hW.2.1
  have hR := hW.2.2.2.2.2.2.1
  have h120 := hR.1
  obtain ⟨kx, ky⟩ := RlC.ku hW hr
  rw [hk] at kx ky
  obtain ⟨a1, a2, a3, a4, a5, _⟩ := hW.2.2.2.2.2.2.2.1 r hr
  obtain ⟨r1, r2, r3, r4, r5, r6, r7, r8, r9⟩ := hR.2.2.2.1 r hr
  rw [hk] at a4 r4
  refine wp_X13_readRule hM ⟨q_inn (by omega) (by omega), ?_⟩
  rw [q_cl (by omega), a2, r4, show (60 : Int32) = nI 60 from rfl, q_nmul]
  have e84 : zI (zI (zI (zI I 59 28 1) 59 29 (nI (60 * r))) 59 30 (nI (ln r))) 59 32 (nI k) 84 = I 84 := by rw [zI_r (by omega), zI_r (by omega), zI_r (by omega), zI_r (by omega)]
  have e82 : zI (zI (zI (zI I 59 28 1) 59 29 (nI (60 * r))) 59 30 (nI (ln r))) 59 32 (nI k) 82 = I 82 := by rw [zI_r (by omega), zI_r (by omega), zI_r (by omega), zI_r (by omega)]
  have e83 : zI (zI (zI (zI I 59 28 1) 59 29 (nI (60 * r))) 59 30 (nI (ln r))) 59 32 (nI k) 83 = I 83 := by rw [zI_r (by omega), zI_r (by omega), zI_r (by omega), zI_r (by omega)]
  have hT : TxR (zI (zI (zI (zI I 59 28 1) 59 29 (nI (60 * r))) 59 30 (nI (ln r))) 59 32 (nI k)) (fun q => I 77 (60 * r + q)) (ln r) (nI k) (I 84) (I 82) (I 83) := by
    refine ⟨?_, a1, ?_, by rw [q_nI (by omega)]; omega, e84, e82, e83, Or.inr ⟨?_, r, by omega, ?_, fun q hq => ?_⟩⟩
    · (repeat (first | rw [zI_s] | rw [zI_d (by omega)]))
    · (repeat (first | rw [zI_s] | rw [zI_d (by omega)]))
    · (repeat (first | rw [zI_s] | rw [zI_d (by omega)])); decide
    · (repeat (first | rw [zI_s] | rw [zI_d (by omega)]))
    · (repeat (first | rw [zI_s] | rw [zI_d (by omega)]))
  have z0 : Fz rdr I (zI (zI (zI (zI I 59 28 1) 59 29 (nI (60 * r))) 59 30 (nI (ln r))) 59 32 (nI k)) := (((Fz.rfl'.z (Or.inr ⟨rfl, by omega⟩)).z (Or.inr ⟨rfl, by omega⟩)).z (Or.inr ⟨rfl, by omega⟩)).z (Or.inr ⟨rfl, by omega⟩)
  refine c13_readText hM hT a3 a4 (fun e he => nomatch he) (fun x y he I2 L2 f2 l2 a33 a46 a47 a34 a38 a39 => ⟨rfl, ?_⟩)
  have exy := Prod.mk.inj (Sum.inr.inj he)
  rw [← exy.1, ← exy.2] at a38 a39
  refine h I2 L2 (z0.trans (f2.mono (fun a j z => Or.inl z))) (fun nm => ?_)
  rw [a38, a39]
  have e1 := evs_r (nm := nm) (ms := I 84) (rx := I 82) (ry := I 83) (show k ≤ 10 by omega) (Y r) ((evs (I 84) (I 82) (I 83) (false, [], 0, 0) (X r)).1, [], (evs (I 84) (I 82) (I 83) (false, [], 0, 0) (X r)).2.2) ky
  have e2 := evs_r (nm := nm) (ms := I 84) (rx := I 82) (ry := I 83) (show k ≤ 10 by omega) (X r) (false, [], 0, 0) kx
  show rB nm k (evs (I 84) (I 82) (I 83) ((evs (I 84) (I 82) (I 83) (false, [], 0, 0) (X r)).1, [], (evs (I 84) (I 82) (I 83) (false, [], 0, 0) (X r)).2.2) (Y r)).2.2 = _
  rw [e1]
  show cB nm (rB nm k (evs (I 84) (I 82) (I 83) (false, [], 0, 0) (X r)).2.2) (Y r) = _
  rw [e2]
  show cB nm (cB nm (rB nm k (0, 0)) (X r)) (Y r) = _
  rw [rB_0, cB_a]
theorem c13_from79 {I1 : z_I} {L1 : z_L} {a1 a2 a3 : Int32} {b : Nat} {m1 m2 : Int32} (hM : MLay K) (hb : b < 16) (hk : k < 10) (h39 : I1 59 39 = m2)
    (h : Z n0 xX13_from (d + 1) 0 0 33 [(0, .ref (n0 + 59)), (1, .int a1), (2, .int a2), (3, .int a3), (5, .int (nI b)), (6, .int (nI (k + 1)))] [] K (zI I1 87 (10 * b + k) (rB (fun q => I1 87 (10 * b + q)) k (m1, m2))) L1 (z_q0 K Q)) :
    ∀ w q, q + w = k → Z n0 xX13_from (d + 1) 0 0 79 [(0, .ref (n0 + 59)), (1, .int a1), (2, .int a2), (3, .int a3), (5, .int (nI b)), (6, .int (nI k)), (8, .int (rB (fun q => I1 87 (10 * b + q)) q (m1, m2))), (9, .int (nI q))] [] K I1 L1 (z_q0 K Q) := by
  intro w
  induction w with
  | zero =>
    intro q hq
    have : q = k := by omega
    subst this
    refine wp_X13_from_79 hM (iq (fun z => by have := q_lt.mp z; omega) ?_)
    rw [show (10 : Int32) = nI 10 from rfl, q_nmul, q_nadd, q_cl (by omega), ← nI_succ]
    exact ⟨q_inn (by omega) (by omega), h⟩
  | succ w ih =>
    intro q hq
    refine wp_X13_from_79 hM (ip (nI_lt (by omega) (by omega)) ?_)
    rw [show (10 : Int32) = nI 10 from rfl, q_nmul, q_nadd, q_cl (by omega), ← nI_succ, h39, tb_shr (by omega)]
    refine ⟨fun _ => q_inn (by omega) (by omega), ?_⟩
    have e : rB (fun q => I1 87 (10 * b + q)) (q + 1) (m1, m2) = rB (fun q => I1 87 (10 * b + q)) q (m1, m2) ||| (if bI (tb m2 q = true) = 1 then I1 87 (10 * b + q) else 0) := by
      unfold rB
      show m1 ||| (orF _ q ||| (if tb m2 q = true then I1 87 (10 * b + q) else 0)) = _
      rw [or_a]
      congr 2
      by_cases c : tb m2 q = true
      · rw [if_pos c, bI_t c, if_pos rfl]
      · rw [if_neg c, bI_f c, if_neg (by decide)]
    rw [← e]
    exact ih (q + 1) (by omega)
/-- what the reference holds: pieces before b, and the points before k of it -/
def fmJ (I1 : z_I) (NP : Nat → Nat → Int32) (pts : Nat → Nat) (b : Nat) : Prop := ∀ c, c < b → ∀ q, q < pts c → I1 87 (10 * c + q) = NP c q
theorem c13_from33 {b j : Nat} (hW : Wd K I np nr nb na t pid pts rid rp rk ln cx cy bid m par X Y A) (hNP : ∀ p, p < np → NP p = nmQ X Y (fun k => selR rp rk (I 81) p k dy nr) (nmB (par p) NP) (pts p)) (hb : b < np) {a1 a2 : Int32}
    (h : ∀ I' L', Fz (gS K) I I' → fmJ I' NP pts (b + 1) → Z n0 xX13_from (d + 9) 0 0 24 [(0, .ref (n0 + 59)), (1, .int a1), (2, .int a2), (3, .int dy), (5, .int (nI (b + 1)))] [] K I' L' (z_q0 K Q)) :
    ∀ w k I1 L1, k + w = pts b → Fz (gS K) I I1 → fmJ I1 NP pts b → (∀ q, q < k → I1 87 (10 * b + q) = nmO X Y (fun k => selR rp rk (I 81) b k dy nr) (nmB (par b) NP) k q) → Z n0 xX13_from (d + 9) 0 0 33 [(0, .ref (n0 + 59)), (1, .int a1), (2, .int a2), (3, .int dy), (5, .int (nI b)), (6, .int (nI k))] [] K I1 L1 (z_q0 K Q) := by
  have hM := hW.2.1
  have hP := hW.2.2.2.1
  have hnp := hP.n
  have hN := hW.2.2.2.2.1
  have hpt := fun q hq => (hN.2.2 q hq).2.2
  have g87 : ∀ j, gS K 87 j := fun j => by unfold gS; omega
  intro w
  induction w with
  | zero =>
    intro k I1 L1 hk f1 j1 j2
    have w1 := hW.fr KD.rf f1
    refine wp_X13_from_33 hM ⟨q_inn (by omega) (by omega), ?_⟩
    rw [q_cl (by omega), (w1.2.2.2.2.1.m b hb).1, ← nI_succ, ← nI_succ, show k = pts b by omega]
    refine iq (fun z => by have := q_lt.mp z; omega) (h I1 L1 f1 (fun c hc q hq => ?_))
    by_cases e : c = b
    · subst e
      rw [hNP c hb]
      unfold nmQ
      rw [if_pos hq, j2 q (by omega), show k = pts c by omega]
    · exact j1 c (by omega) q hq
  | succ w ih =>
    intro k I1 L1 hk f1 j1 j2
    have w1 := hW.fr KD.rf f1
    have hp10 := (hpt b hb).2
    have e81 : I1 81 = I 81 := funext fun q => f1 81 q (by unfold gS; omega)
    refine wp_X13_from_33 hM ⟨q_inn (by omega) (by omega), ?_⟩
    rw [q_cl (n := b) (by omega), (w1.2.2.2.2.1.m b hb).1, ← nI_succ, ← nI_succ]
    refine ip (nI_lt (by omega) (by omega)) (c13_ruleOn hM w1.2.2.2.2.2.2.1 hnp hb (by omega) ⟨_, rfl, ?_⟩)
    rw [e81]
    -- the next point
    have nx : ∀ I2 L2, Fz (gS K) I I2 → (∀ c q, (c ≠ b ∨ q < k) → q < 10 → I2 87 (10 * c + q) = I1 87 (10 * c + q)) → I2 87 (10 * b + k) = nmO X Y (fun k => selR rp rk (I 81) b k dy nr) (nmB (par b) NP) (k + 1) k → Z n0 xX13_from (d + 9) 0 0 33 [(0, .ref (n0 + 59)), (1, .int a1), (2, .int a2), (3, .int dy), (5, .int (nI b)), (6, .int (nI (k + 1)))] [] K I2 L2 (z_q0 K Q) := by
      intro I2 L2 f2 o2 v2
      refine ih (k + 1) I2 L2 (by omega) f2 (fun c hc q hq => ?_) (fun q hq => ?_)
      · rw [o2 c q (Or.inl (by omega)) (by have := (hpt c (by omega)).2; omega)]; exact j1 c hc q hq
      · by_cases e : q = k
        · subst e; exact v2
        · rw [o2 b q (Or.inr (by omega)) (by omega), nmO_lo (by omega)]; exact j2 q (by omega)
    cases es : selR rp rk (I 81) b k dy nr with
    | none =>
      have st : nmO X Y (fun k => selR rp rk (I 81) b k dy nr) (nmB (par b) NP) (k + 1) k = nmB (par b) NP k := by
        rw [nmO_n (sel := fun k => selR rp rk (I 81) b k dy nr) es]
        exact nmO_un k k (Nat.le_refl _)
      refine ip (by decide) ?_
      obtain ⟨_, _, l3, l4⟩ := w1.2.2.2.2.2.1 b hb
      cases ep : par b with
      | none =>
        have n3 := (l3 ep).1
        refine ⟨fun z => absurd z n3, fun z => absurd z n3, ?_⟩
        rw [show (10 : Int32) = nI 10 from rfl, q_nmul, q_nadd, q_cl (by omega), if_neg n3]
        refine ⟨q_inn (by omega) (by omega), nx _ L1 (f1.z (g87 _)) (fun c q hc hq => zI_d (by omega)) ?_⟩
        rw [zI_s, st, ep]; rfl
      | some c =>
        obtain ⟨c1, c2, c3, c4⟩ := l4 c ep
        have hpc := (hpt c (by omega)).2
        rw [c3, q_cl (n := c) (by omega), (w1.2.2.2.2.1.m c (by omega)).1, if_pos c2, show (10 : Int32) = nI 10 from rfl, q_nmul, q_nadd, q_nmul, q_nadd, q_cl (by omega), q_cl (by omega)]
        refine ⟨fun _ => q_inn (by omega) (by omega), fun _ _ => q_inn (by omega) (by omega), q_inn (by omega) (by omega), nx _ L1 (f1.z (g87 _)) (fun c q hc hq => zI_d (by omega)) ?_⟩
        rw [zI_s, st, ep]
        show _ = NP c k
        by_cases g : k < pts c
        · rw [if_pos (nI_lt g (by omega))]; exact j1 c c1 k g
        · rw [if_neg (fun z => g ((q_nlt (by omega) (by omega)).mp z)), hNP c (by omega)]
          unfold nmQ
          rw [if_neg g]
    | some r =>
      obtain ⟨s1, s2, s3, s4⟩ := selR_s es
      have h120 := hW.2.2.2.2.2.2.1.1
      obtain ⟨kx, ky⟩ := RlC.ku hW s1
      rw [s3] at kx ky
      have st : nmO X Y (fun k => selR rp rk (I 81) b k dy nr) (nmB (par b) NP) (k + 1) k = cB (nmO X Y (fun k => selR rp rk (I 81) b k dy nr) (nmB (par b) NP) k) 0 (X r) ||| cB (nmO X Y (fun k => selR rp rk (I 81) b k dy nr) (nmB (par b) NP) k) 0 (Y r) := by
        exact nmO_s (sel := fun k => selR rp rk (I 81) b k dy nr) es
      refine iq (nI_pos (by show r < _; omega)) (c13_readNm (d := d) w1 s1 s3 (by omega) (fun I2 L2 f2 hm => ⟨rfl, ?_⟩))
      have f2g : Fz (gS K) I1 I2 := f2.mono (fun a j z => by
        rcases z with ((⟨z1, z2⟩ | z) | ⟨z1, z2⟩) | ⟨z1, z2⟩
        · subst z1; exact g59 (by omega)
        · subst z; exact g86
        · subst z1; exact g59 (by omega)
        · subst z1; exact g59 (by omega))
      have e87 : ∀ q, I2 87 q = I1 87 q := fun q => f2 87 q (by unfold rdr rtS rrS; omega)
      have s0 : I2 59 38 = rB (fun q => I2 87 (10 * b + q)) 0 (I2 59 38, I2 59 39) := by
        unfold rB
        show _ = I2 59 38 ||| 0
        rw [or_z]
      have := c13_from79 (n0 := n0) (d := d + 8) (K := K) (Q := Q) (k := k) (I1 := I2) (L1 := L2) (a1 := a1) (a2 := a2) (a3 := dy) (b := b) (m1 := I2 59 38) (m2 := I2 59 39) hM (by omega) (by omega) rfl ?_ k 0 (by omega)
      · rw [← s0] at this
        exact this
      · rw [hm]
        refine nx _ L2 ((f1.trans f2g).z (g87 _)) (fun c q hc hq => by rw [zI_d (by omega)]; exact e87 _) ?_
        have ag : ∀ i, i < k → (fun q => I2 87 (10 * b + q)) i = nmO X Y (fun k => selR rp rk (I 81) b k dy nr) (nmB (par b) NP) k i := fun i hi => (e87 _).trans (j2 i hi)
        rw [zI_s, st, cB_c (j := k) (by omega) ag (X r) 0 kx, cB_c (j := k) (by omega) ag (Y r) 0 ky]
end OFR
