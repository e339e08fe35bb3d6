/-! the component draws one piece -/
def mvA (A : Int32 → Int32 → Option (Int32 × Int32)) (b p k : Nat) : Int32 × Int32 := (A (nI b) (nI p * 10 + nI k)).getD (0, 0)
/-- what the component's drawing begins with -/
def EnC (K : z_K) (I : z_I) (np nb : Nat) (pid bid : Nat → Nat) (A : Int32 → Int32 → Option (Int32 × Int32)) (ms ru : Nat → Int32) (gx gy : Nat → Nat → Int32) (mv : Nat → Nat → Int32 × Int32) (sz dy : Int32) : Prop :=
  (∀ q, q < 8 → I 9 q = ms q) ∧ I 8 0 = sz ∧ I 8 1 = dy ∧ I 81 = ru ∧ (∀ p k, p < np → k < 10 → I (pid p + 2) k = gx p k ∧ I (pid p + 3) k = gy p k) ∧ ((K.2.2 8 2 = none ∧ ∀ p k, mv p k = (0, 0)) ∨ ∃ b, b < nb ∧ K.2.2 8 2 = some (bid b) ∧ ∀ p k, mv p k = mvA A b p k)
noncomputable def DrP (ms ru : Nat → Int32) (X Y : Nat → List Int32) (rp rk : Nat → Nat) (nr : Nat) (pts : Nat → Nat) (par : Nat → Option Nat) (gx gy : Nat → Nat → Int32) (mv : Nat → Nat → Int32 × Int32) (sz dy : Int32) (np q : Nat) : Option (Nat → Int32 × Int32) := drwS ms X Y (fun p k => selR rp rk ru p k dy nr) pts par (finS gx gy mv sz) np q
/-- the pieces that the component has drawn -/
def DiC (I : z_I) (np : Nat) (pts : Nat → Nat) (D : Nat → Option (Nat → Int32 × Int32)) : Prop := ∀ q, q < np → I 10 q = 0 ∨ (I 10 q = 1 ∧ ∃ g, D q = some g ∧ ∀ k, k < pts q → I 11 (10 * q + k) = (g k).1 ∧ I 12 (10 * q + k) = (g k).2) ∨ (I 10 q = 2 ∧ D q = none)
def dS (a _j : Nat) : Prop := 10 ≤ a ∧ a ≤ 14
def d34 (a _j : Nat) : Prop := a = 13 ∨ a = 14
section DON
variable {n0 d : Nat} {K : z_K} {I I1 : z_I} {L : z_L} {Q : z_q} {np nr nb na t : Nat} {pid pts rid rp rk ln cx cy bid m : Nat → Nat} {par : Nat → Option Nat} {X Y : Nat → List Int32} {A : Int32 → Int32 → Option (Int32 × Int32)} {p k r : Nat} {ms ru : Nat → Int32} {f : Nat → Int32 × Int32} {gx gy : Nat → Nat → Int32} {mv : Nat → Nat → Int32 × Int32} {sz dy : Int32} {sel : Nat → Option Nat} {blk : Option (Nat × (Nat → Int32 × Int32))}
theorem dS_g {a j : Nat} (h : dS a j) : gS K a j := by unfold dS at h; unfold gS; omega
theorem d34_d {a j : Nat} (h : d34 a j) : dS a j := by unfold d34 at h; unfold dS; omega
theorem EnC.fr {K' : z_K} (h : EnC K I np nb pid bid A ms ru gx gy mv sz dy) (hP : PcK K np pid) (hk : K'.2.2 8 2 = K.2.2 8 2) (hI : Fz dS I I1) : EnC K' I1 np nb pid bid A ms ru gx gy mv sz dy := by
  obtain ⟨a, b, c, d, e, f⟩ := h
  refine ⟨fun q hq => by rw [hI 9 q (by unfold dS; omega)]; exact a q hq, by rw [hI 8 0 (by unfold dS; omega)]; exact b, by rw [hI 8 1 (by unfold dS; omega)]; exact c, ?_, fun p k hp hk => ?_, by rw [hk]; exact f⟩
  · rw [← d]; funext q; exact hI 81 q (by unfold dS; omega)
  · have := hP.ge hp
    rw [hI _ _ (by unfold dS; omega), hI _ _ (by unfold dS; omega)]; exact e p k hp hk
theorem c0_moveOf {b : Nat} {ax : Int32} (hB : BdK K nb bid) (hA : AltI I nb na bid m A) (hb : b < nb) (h : Q (some (.int (if ax = 0 then (mvA A b p k).1 else (mvA A b p k).2))) I L) : RM0 n0 xX0_moveOf (d + 1) [.ref (n0 + bid b), .int (nI p), .int (nI k), .int ax] K I L Q := by
  have hlt := hB.lt hb
  have s7 := hB.s hb
  have r7 := hB.r hb
  obtain ⟨m1, m2, m3⟩ := hA.2.2.2.2.1 b hb
  have h40 := hA.2.2.1
  refine wp_X0_moveOf ⟨by omega, hB.cls hb, c0_spot (by omega) (hB.cls hb) r7.2.1 s7.2.1 m2 (by omega) (fun r hr e => ⟨_, rfl, ?_⟩) (fun e => ⟨_, rfl, ?_⟩)⟩
  · rw [m2]
    have hA' : A (nI b) (nI p * 10 + nI k) = some (I (bid b + 3) r, I (bid b + 4) r) := by rw [← e]; exact m3.1 r hr
    have em : mvA A b p k = (I (bid b + 3) r, I (bid b + 4) r) := by unfold mvA; rw [hA']; rfl
    rw [em] at h
    refine ip (nI_lt hr (by omega)) ?_
    by_cases g : ax = 0
    · rw [if_pos g] at h
      refine ip g ⟨_, r7.2.2.1, 40, by omega, s7.2.2.1, q_inn (by omega) (by omega), ?_⟩
      rw [q_cl (by omega)]; exact h
    · rw [if_neg g] at h
      refine iq g ⟨_, r7.2.2.2.1, 40, by omega, s7.2.2.2.1, q_inn (by omega) (by omega), ?_⟩
      rw [q_cl (by omega)]; exact h
  · rw [m2]
    have em : mvA A b p k = (0, 0) := by unfold mvA; rw [m3.nk e]; rfl
    rw [em, ite_self] at h
    exact iq (fun z => by have := q_lt.mp z; omega) h
theorem raw_no {n : Nat} (h : rawS ms X Y sel blk k = none) (hk : k ≤ n) : rawS ms X Y sel blk n = none := by
  induction n with
  | zero =>
    have e : k = 0 := by omega
    rw [← e]; exact h
  | succ n ih =>
    by_cases e : k = n + 1
    · rw [← e]; exact h
    · show (match rawS ms X Y sel blk n with | none => none | some f => match pntS ms X Y (sel n) blk f n with | none => none | some v => some (fun t => if t = n then v else f t)) = none
      rw [ih (by omega)]
theorem raw_s {f : Nat → Int32 × Int32} (h : rawS ms X Y sel blk k = some f) : rawS ms X Y sel blk (k + 1) = match pntS ms X Y (sel k) blk f k with | none => none | some v => some (fun t => if t = k then v else f t) := by
  show (match rawS ms X Y sel blk k with | none => none | some f => match pntS ms X Y (sel k) blk f k with | none => none | some v => some (fun t => if t = k then v else f t)) = _
  rw [h]
theorem c2_takeBlock {D : Nat → Option (Nat → Int32 × Int32)} (hW : Wd K I np nr nb na t pid pts rid rp rk ln cx cy bid m par X Y A) (hD : DiC I np pts D) (hp : p < np) (hk10 : k < 10) (hpar : ∀ q, par p = some q → I 10 q ≠ 0)
    (hblk : blk = match par p with | none => none | some q => match D q with | none => none | some g => some (pts q, g))
    (h0 : pntS ms X Y none blk f k = none → Q (some (.int 0)) I L) (h1 : ∀ v, pntS ms X Y none blk f k = some v → Q (some (.int 1)) (zI (zI I 13 k v.1) 14 k v.2) L) : ∀ o, K.2.2 (pid p) 3 = o → RM0 n0 xX2_takeFromBlock (d + 1) [.ref (n0 + 8), zr n0 o, .int (nI k)] K I L Q := by
  intro o ho
  have hP := hW.2.2.2.1
  have hN := hW.2.2.2.2.1
  obtain ⟨l1, l2, l3, l4⟩ := hW.2.2.2.2.2.1 p hp
  have hnp := hP.n
  cases ep : par p with
  | none =>
    rw [(l3 ep).2] at ho
    rw [ep] at hblk
    rw [← ho]
    exact wp_X2_takeFromBlock hW.1 (osn (h0 (by rw [hblk]; rfl)))
  | some q =>
    obtain ⟨q1, q2, q3, q4⟩ := l4 q ep
    have hq : q < np := by omega
    have hlt := hP.lt hq
    obtain ⟨n1, n2, n3, n4⟩ := hN.2.2 q hq
    obtain ⟨q0, _⟩ := hW.2.2.2.2.2.1 q hq
    rw [q4] at ho
    rw [ep] at hblk
    have hblk' : blk = match D q with | none => none | some g => some (pts q, g) := hblk
    rw [← ho]
    refine wp_X2_takeFromBlock hW.1 (oss ⟨by omega, hP.cls hq, c5_has (by omega) (hP.cls hq) n1 n4 ⟨_, rfl, ?_⟩⟩)
    rw [q0, q_cl (by omega), q_nI (by omega)]
    by_cases g : (0 : Int) ≤ (k : Int) ∧ (k : Int) < pts q
    · rw [bI_t g]
      refine iq (by decide) ⟨q_inn (by omega) (by omega), ?_⟩
      rcases hD q hq with e | ⟨e, gg, eg, hg⟩ | ⟨e, eg⟩
      · exact absurd e (hpar q ep)
      · rw [eg] at hblk'
        have hv : pntS ms X Y none blk f k = some (gg k) := by
          rw [hblk']
          show (if k < pts q then some (gg k) else none) = _
          rw [if_pos (by omega)]
        obtain ⟨x1, x2⟩ := hg k (by omega)
        refine ip e (c2_placeOf hW hq hk10 ⟨_, rfl, q_inn (by omega) (by omega), ?_⟩)
        rw [q_cl (by omega), if_pos rfl, x1]
        have hW1 : Wd K (zI I 13 k (gg k).1) np nr nb na t pid pts rid rp rk ln cx cy bid m par X Y A := hW.fr KD.rf (Fz.rfl'.z (dS_g (by unfold dS; omega)))
        refine c2_placeOf hW1 hq hk10 ⟨_, rfl, ?_⟩
        rw [if_neg (by decide), zI_r (by omega), x2]
        exact h1 _ hv
      · rw [eg] at hblk'
        exact iq (by rw [e]; decide) (h0 (by rw [hblk']; rfl))
    · rw [bI_f g]
      refine ip rfl (h0 ?_)
      rw [hblk']
      cases eD : D q with
      | none => rfl
      | some gg =>
        show (if k < pts q then some (gg k) else none) = none
        rw [if_neg (by omega)]
theorem c2_dr4 {D : Nat → Option (Nat → Int32 × Int32)} (hW : Wd K I np nr nb na t pid pts rid rp rk ln cx cy bid m par X Y A) (hE : EnC K I np nb pid bid A ms ru gx gy mv sz dy) (hD : DiC I np pts D) (hp : p < np) (hpar : ∀ q, par p = some q → I 10 q ≠ 0)
    (hblk : blk = match par p with | none => none | some q => match D q with | none => none | some g => some (pts q, g))
    (hbad : rawS ms X Y (fun k => selR rp rk ru p k dy nr) blk (pts p) = none → ∀ I' L', Fz d34 I I' → Q none (zI I' 10 p 2) L')
    (hgood : ∀ g, rawS ms X Y (fun k => selR rp rk ru p k dy nr) blk (pts p) = some g → ∀ I' L', Fz d34 I I' → (∀ q, q < pts p → I' 13 q = (g q).1 ∧ I' 14 q = (g q).2) → Z n0 xX2_drawOne (d + 3) 0 0 78 [(0, .ref (n0 + 8)), (1, .ref (n0 + pid p)), (2, .int 1), (3, .int 0)] [] K (zI I' 10 p 1) L' (z_q0 K Q)) :
    ∀ w k f I1 L1, k + w = pts p → rawS ms X Y (fun k => selR rp rk ru p k dy nr) blk k = some f → (∀ q, q < k → I1 13 q = (f q).1 ∧ I1 14 q = (f q).2) → Fz d34 I I1 → Z n0 xX2_drawOne (d + 3) 0 0 4 [(0, .ref (n0 + 8)), (1, .ref (n0 + pid p)), (2, .int 1), (3, .int (nI k))] [] K I1 L1 (z_q0 K Q) := by
  have hP := hW.2.2.2.1
  have hN := hW.2.2.2.2.1
  have hlt := hP.lt hp
  have hge := hP.ge hp
  have hnp := hP.n
  have hpt := (hN.2.2 p hp).2.2.2
  intro w
  induction w with
  | zero =>
    intro k f I1 L1 hk hr hf hI
    have hW1 := hW.fr KD.rf (hI.mono (fun a j h => dS_g (d34_d h)))
    have e2 : I1 (pid p) 2 = nI (pts p) := (hW1.2.2.2.2.1.2.2 p hp).1
    have e0 : I1 (pid p) 0 = nI p := (hW1.2.2.2.2.2.1 p hp).1
    have hk' : k = pts p := by omega
    refine wp_X2_drawOne_4 hW.1 (iq (by decide) ⟨by omega, hP.cls hp, ?_⟩)
    rw [e2, e0, q_cl (by omega), if_neg (show ¬ (1 : Int32) = 0 by decide)]
    refine iq (fun z => by have := q_lt.mp z; rw [q_nI (by omega), q_nI (by omega)] at this; omega) ⟨q_inn (by omega) (by omega), ?_⟩
    subst hk'
    exact hgood f hr I1 L1 hI hf
  | succ w ih =>
    intro k f I1 L1 hk hr hf hI
    have hW1 := hW.fr KD.rf (hI.mono (fun a j h => dS_g (d34_d h)))
    have hE1 := hE.fr hP rfl (hI.mono (fun a j h => d34_d h))
    have e2 : I1 (pid p) 2 = nI (pts p) := (hW1.2.2.2.2.1.2.2 p hp).1
    have e0 : I1 (pid p) 0 = nI p := (hW1.2.2.2.2.2.1 p hp).1
    have hR1 := hW1.2.2.2.2.2.2.1
    have rs := raw_s hr
    have fail : rawS ms X Y (fun k => selR rp rk ru p k dy nr) blk (k + 1) = none → ∀ L2, Z n0 xX2_drawOne (d + 3) 0 0 4 [(0, .ref (n0 + 8)), (1, .ref (n0 + pid p)), (2, .int 0), (3, .int (nI (k + 1)))] [] K I1 L2 (z_q0 K Q) := by
      intro hn L2
      refine wp_X2_drawOne_4 hW.1 (ip rfl ⟨by omega, hP.cls hp, ?_⟩)
      rw [e0, q_cl (by omega), if_pos rfl]
      exact ⟨q_inn (by omega) (by omega), wp_X2_drawOne_78 hW.1 (ip rfl (hbad (raw_no hn (by omega)) I1 L2 hI))⟩
    have good : ∀ v, rawS ms X Y (fun k => selR rp rk ru p k dy nr) blk (k + 1) = some (fun t => if t = k then v else f t) → ∀ L2, Z n0 xX2_drawOne (d + 3) 0 0 4 [(0, .ref (n0 + 8)), (1, .ref (n0 + pid p)), (2, .int 1), (3, .int (nI (k + 1)))] [] K (zI (zI I1 13 k v.1) 14 k v.2) L2 (z_q0 K Q) := by
      intro v hv L2
      refine ih (k + 1) _ _ L2 (by omega) hv (fun q hq => ?_) ((hI.z (Or.inl rfl)).z (Or.inr rfl))
      by_cases e : q = k
      · subst e
        rw [if_pos rfl, zI_d (by omega), zI_s, zI_s]; exact ⟨rfl, rfl⟩
      · rw [if_neg e, zI_d (by omega), zI_d (by omega), zI_d (by omega), zI_d (by omega)]; exact hf q (by omega)
    refine wp_X2_drawOne_4 hW.1 (iq (by decide) ⟨by omega, hP.cls hp, ?_⟩)
    rw [e2, hE1.2.2.1, ← nI_succ]
    refine ip (nI_lt (by omega) (by omega)) (c5_ruleOn hP hR1 hp (by omega) ⟨_, rfl, ?_⟩)
    rw [hE1.2.2.2.1]
    cases es : selR rp rk ru p k dy nr with
    | none =>
      rw [es] at rs
      have hD1 : DiC I1 np pts D := fun q hq => by
        rw [hI 10 q (by unfold d34; omega)]
        rcases hD q hq with e | ⟨e, gg, eg, hg⟩ | e
        · exact Or.inl e
        · exact Or.inr (Or.inl ⟨e, gg, eg, fun k hk => by rw [hI 11 _ (by unfold d34; omega), hI 12 _ (by unfold d34; omega)]; exact hg k hk⟩)
        · exact Or.inr (Or.inr e)
      refine osn (c2_takeBlock (ms := ms) (f := f) (D := D) hW1 hD1 hp (by omega) (fun q hq => by rw [hI 10 q (by unfold d34; omega)]; exact hpar q hq) hblk (fun e => ⟨_, rfl, ?_⟩) (fun v e => ⟨_, rfl, ?_⟩))
      · rw [e] at rs; exact fail rs _
      · rw [e] at rs; exact good v rs _
    | some r =>
      rw [es] at rs
      obtain ⟨s1, s2, s3, s4⟩ := selR_s es
      refine oss (c2_takeRule (ms := ms) (f := f) hW1 s1 s3 (by omega) hE1.1 hf (fun e L2 => ⟨_, rfl, ?_⟩) (fun v e L2 => ⟨_, rfl, ?_⟩))
      · have e' : pntS ms X Y (some r) blk f k = none := e
        rw [e'] at rs; exact fail rs _
      · have e' : pntS ms X Y (some r) blk f k = some v := e
        rw [e'] at rs; exact good v rs _
end DON
