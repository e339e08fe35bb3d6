/-! the measures that the points of a piece come from -/
def nmO (X Y : Nat → List Int32) (sel : Nat → Option Nat) (base : Nat → Int32) : Nat → Nat → Int32
  | 0 => base
  | n + 1 => match sel n with
    | none => nmO X Y sel base n
    | some r => fun q => if q = n then cB (nmO X Y sel base n) 0 (X r) ||| cB (nmO X Y sel base n) 0 (Y r) else nmO X Y sel base n q
def nmQ (X Y : Nat → List Int32) (sel : Nat → Option Nat) (base : Nat → Int32) (n : Nat) : Nat → Int32 := fun q => if q < n then nmO X Y sel base n q else 0
def nmB (par : Option Nat) (f : Nat → Nat → Int32) : Nat → Int32 := match par with
  | none => fun _ => 0
  | some b => f b
def nmF (X Y : Nat → List Int32) (sel : Nat → Nat → Option Nat) (pts : Nat → Nat) (par : Nat → Option Nat) : Nat → Nat → Nat → Int32
  | 0, _ => fun _ => 0
  | f + 1, p => nmQ X Y (sel p) (nmB (par p) (nmF X Y sel pts par f)) (pts p)
def nmP (X Y : Nat → List Int32) (sel : Nat → Nat → Option Nat) (pts : Nat → Nat) (par : Nat → Option Nat) (p : Nat) : Nat → Int32 := nmF X Y sel pts par (p + 1) p
section NMO
variable {n0 d : Nat} {K : z_K} {I : z_I} {L : z_L} {np nr nb na t : Nat} {pid pts rid rp rk ln cx cy bid m : Nat → Nat} {par : Nat → Option Nat} {X Y : Nat → List Int32} {A : Int32 → Int32 → Option (Int32 × Int32)} {p : Nat} {dy : Int32} {nm nm' base : Nat → Int32} {sel : Nat → Nat → Option Nat}
theorem nmF_st (hb : ∀ q, q < np → ∀ b, par q = some b → b < q) : ∀ f q g, q < f → q < g → q < np → nmF X Y sel pts par f q = nmF X Y sel pts par g q := by
  intro f
  induction f with
  | zero => intro q g h; omega
  | succ f ih =>
    intro q g h1 h2 h3
    cases g with
    | zero => omega
    | succ g =>
      show nmQ X Y (sel q) (nmB (par q) (nmF X Y sel pts par f)) (pts q) = nmQ X Y (sel q) (nmB (par q) (nmF X Y sel pts par g)) (pts q)
      cases e : par q with
      | none => rfl
      | some b =>
        have := hb q h3 b e
        show nmQ X Y (sel q) (nmF X Y sel pts par f b) (pts q) = nmQ X Y (sel q) (nmF X Y sel pts par g b) (pts q)
        rw [ih b g (by omega) (by omega) (by omega)]
theorem nmP_e (hb : ∀ q, q < np → ∀ b, par q = some b → b < q) (hp : p < np) : nmP X Y sel pts par p = nmQ X Y (sel p) (nmB (par p) (nmP X Y sel pts par)) (pts p) := by
  show nmQ X Y (sel p) (nmB (par p) (nmF X Y sel pts par p)) (pts p) = _
  cases e : par p with
  | none => rfl
  | some b =>
    have := hb p hp b e
    show nmQ X Y (sel p) (nmF X Y sel pts par p b) (pts p) = nmQ X Y (sel p) (nmF X Y sel pts par (b + 1) b) (pts p)
    rw [nmF_st hb p b (b + 1) this (by omega) (by omega)]
theorem uB_c {j : Nat} {u : Int32} (hj : j ≤ 10) (hu : kU j u) (h : ∀ q, q < j → nm' q = nm q) : uB nm' u = uB nm u := by
  rcases hu with ⟨t, ht, e⟩ | ⟨t, ht, e⟩ | ⟨t, ht, e⟩ | ⟨t, ht, e⟩ | ⟨t, ht, ht2, e⟩
  · rw [e, uB_n ht, uB_n ht]
  · rw [e, uB_m ht, uB_m ht]
  · rw [e, uB_x (by omega), uB_x (by omega)]; exact h t ht
  · rw [e, uB_y (by omega), uB_y (by omega)]; exact h t ht
  · rw [e, uB_o ht ht2, uB_o ht ht2]
theorem cB_c {j : Nat} (hj : j ≤ 10) (h : ∀ q, q < j → nm' q = nm q) : ∀ (c : List Int32) (b : Int32), (∀ u, u ∈ c → kU j u) → cB nm' b c = cB nm b c := by
  intro c
  induction c with
  | nil => intro b _; rfl
  | cons u c ih =>
    intro b hu
    show cB nm' (b ||| uB nm' u) c = cB nm (b ||| uB nm u) c
    rw [uB_c hj (hu u List.mem_cons_self) h, ih _ (fun v hv => hu v (List.mem_cons_of_mem _ hv))]
/-- a rule's codes, their units by kinds -/
theorem RlC.ku (hW : Wd K I np nr nb na t pid pts rid rp rk ln cx cy bid m par X Y A) {r : Nat} (hr : r < nr) : (∀ u, u ∈ X r → kU (rk r) u) ∧ ∀ u, u ∈ Y r → kU (rk r) u := by
  have hR := hW.2.2.2.2.2.2.1
  obtain ⟨a1, a2, a3, a4, _⟩ := hW.2.2.2.2.2.2.2.1 r hr
  have h10 := (hR.2.2.2.1 r hr).2.1
  have hwf := pT_wf (by omega) a4
  exact ⟨wf_k _ 0 1 hwf.1, wf_k _ 0 1 hwf.2⟩
theorem c2_name59 {Q : z_q} (hC : CLay K) : ∀ w n I1, n + w = 10 → (∀ I', Fz (fun a _ => a = 17) I1 I' → (∀ q, q < n → I' 17 q = I1 17 q) → (∀ q, n ≤ q → q < 10 → I' 17 q = 0) → Q none I' L) → Z n0 xX2_nameOne (d + 1) 0 0 59 [(0, .ref (n0 + 8)), (3, .int (nI n))] [] K I1 L (z_q0 K Q) := by
  intro w
  induction w with
  | zero =>
    intro n I1 hn h
    have : n = 10 := by omega
    subst this
    exact wp_X2_nameOne_59 hC (iq (by decide) (h I1 Fz.rfl' (fun _ _ => rfl) (fun q h1 h2 => by omega)))
  | succ w ih =>
    intro n I1 hn h
    refine wp_X2_nameOne_59 hC (ip (nI_lt (b := 10) (by omega) (by omega)) ⟨q_inn (by omega) (by omega), ?_⟩)
    rw [q_cl (by omega), ← nI_succ]
    refine ih (n + 1) _ (by omega) (fun I' f' h1 h2 => h I' ((Fz.z (S := fun a _ => a = 17) (a := 17) (j := n) Fz.rfl' rfl).trans f') (fun q hq => by rw [h1 q (by omega), zI_d (by omega)]) (fun q hq1 hq2 => ?_))
    by_cases e : q = n
    · subst e; rw [h1 q (by omega), zI_s]
    · exact h2 q (by omega) hq2
theorem c2_name2 {Q : z_q} (hW : Wd K I np nr nb na t pid pts rid rp rk ln cx cy bid m par X Y A) (hp : p < np)
    (h : ∀ I', Fz (fun a _ => a = 17) I I' → (∀ q, q < 10 → I' 17 q = nmQ X Y (fun k => selR rp rk (I 81) p k dy nr) base (pts p) q) → Q none I' L) :
    ∀ w n I1, n + w = pts p → Fz (fun a _ => a = 17) I I1 → (∀ q, q < 10 → I1 17 q = nmO X Y (fun k => selR rp rk (I 81) p k dy nr) base n q) → Z n0 xX2_nameOne (d + 2) 0 0 2 [(0, .ref (n0 + 8)), (1, .ref (n0 + pid p)), (2, .int dy), (3, .int (nI n))] [] K I1 L (z_q0 K Q) := by
  have hP := hW.2.2.2.1
  have hlt := hP.lt hp
  have hge := hP.ge hp
  have hN := hW.2.2.2.2.1
  have hpt := (hN.2.2 p hp).2.2
  have hC := hW.1
  intro w
  induction w with
  | zero =>
    intro n I1 hn f1 h1
    have w1 := hW.fr KD.rf (f1.mono (fun a j z => by unfold gS; omega))
    refine wp_X2_nameOne_2 hC ⟨by omega, hP.cls hp, ?_⟩
    rw [(w1.2.2.2.2.1.c p hp).1, show n = pts p by omega]
    refine iq (fun z => by have := q_lt.mp z; omega) (c2_name59 (d := d + 1) hC (10 - pts p) (pts p) I1 (by omega) (fun I' f' a b => h I' (f1.trans f') (fun q hq => ?_)))
    unfold nmQ
    by_cases c : q < pts p
    · rw [if_pos c, a q c, h1 q hq, show n = pts p by omega]
    · rw [if_neg c, b q (by omega) hq]
  | succ w ih =>
    intro n I1 hn f1 h1
    have w1 := hW.fr KD.rf (f1.mono (fun a j z => by unfold gS; omega))
    have e81 : I1 81 = I 81 := funext fun q => f1 81 q (by omega)
    refine wp_X2_nameOne_2 hC ⟨by omega, hP.cls hp, ?_⟩
    rw [(w1.2.2.2.2.1.c p hp).1]
    refine ip (nI_lt (by omega) (by omega)) (c5_ruleOn (dy := dy) hP w1.2.2.2.2.2.2.1 hp (by omega) ⟨_, rfl, ?_⟩)
    rw [e81, ← nI_succ]
    cases es : selR rp rk (I 81) p n dy nr with
    | none =>
      have st : nmO X Y (fun k => selR rp rk (I 81) p k dy nr) base (n + 1) = nmO X Y (fun k => selR rp rk (I 81) p k dy nr) base n := by
        show (match selR rp rk (I 81) p n dy nr with | none => _ | some r => _) = _
        rw [es]
      exact osn (ih (n + 1) I1 (by omega) f1 (fun q hq => by rw [st]; exact h1 q hq))
    | some r =>
      obtain ⟨s1, s2, s3, s4⟩ := selR_s es
      obtain ⟨r1, r2, r3, r4, r5, r6, r7, r8, r9⟩ := w1.2.2.2.2.2.2.1.2.2.2.1 r s1
      obtain ⟨a1, a2, a3, a4, a5, b1, b2, b3, b4, b5, c1, c2, c3, c4, c5⟩ := w1.2.2.2.2.2.2.2.1 r s1
      obtain ⟨kx, ky⟩ := RlC.ku w1 s1
      rw [s3] at kx ky
      refine oss ⟨r7, r8, _, b4, wp_X2_namedIn hC (c2_named_l (j := n) hC (by omega) b2 b3 (by omega) (X r) 0 0 (by omega) b5 kx ⟨_, rfl, _, c4, wp_X2_namedIn hC (c2_named_l (j := n) hC (by omega) c2 c3 (by omega) (Y r) 0 0 (by omega) c5 ky ⟨_, rfl, q_inn (by omega) (by omega), ?_⟩)⟩)⟩
      rw [q_cl (by omega)]
      have st : nmO X Y (fun k => selR rp rk (I 81) p k dy nr) base (n + 1) = fun q => if q = n then cB (nmO X Y (fun k => selR rp rk (I 81) p k dy nr) base n) 0 (X r) ||| cB (nmO X Y (fun k => selR rp rk (I 81) p k dy nr) base n) 0 (Y r) else nmO X Y (fun k => selR rp rk (I 81) p k dy nr) base n q := by
        show (match selR rp rk (I 81) p n dy nr with | none => _ | some r => _) = _
        rw [es]
      refine ih (n + 1) _ (by omega) (f1.z rfl) (fun q hq => ?_)
      rw [st]
      show _ = if q = n then _ else _
      by_cases e : q = n
      · subst e
        rw [if_pos rfl, zI_s, cB_c (j := q) (by omega) (fun i hi => h1 i (by omega)) (X r) 0 kx, cB_c (j := q) (by omega) (fun i hi => h1 i (by omega)) (Y r) 0 ky]
      · rw [if_neg e, zI_d (by omega)]; exact h1 q hq
theorem c2_nameOne {Q : z_q} (hW : Wd K I np nr nb na t pid pts rid rp rk ln cx cy bid m par X Y A) (hp : p < np) (hb : ∀ q, q < 10 → I 17 q = base q)
    (h : ∀ I', Fz (fun a _ => a = 17) I I' → (∀ q, q < 10 → I' 17 q = nmQ X Y (fun k => selR rp rk (I 81) p k dy nr) base (pts p) q) → Q none I' L) :
    RM0 n0 xX2_nameOne (d + 2) [.ref (n0 + 8), .ref (n0 + pid p), .int dy] K I L Q :=
  wp_X2_nameOne hW.1 (c2_name2 hW hp h (pts p) 0 I (by omega) Fz.rfl' hb)
end NMO
