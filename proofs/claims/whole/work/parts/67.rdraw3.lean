/-! the reference draws a piece with its blocks -/
def dr4 (a j : Nat) : Prop := drO a j ∨ a = 84 ∨ a = 94
def m84 (I : z_I) (ms : Nat → Int32) (k : Nat) : z_I := fun b => if b = 84 then (fun j => if j < k then ms j else I 84 j) else I b
section RD3
variable {n0 d : Nat} {K : z_K} {I I1 : z_I} {L : z_L} {Q : z_q} {np nr nb na t : Nat} {pid pts rid rp rk ln cx cy bid m : Nat → Nat} {par : Nat → Option Nat} {X Y : Nat → List Int32} {A : Int32 → Int32 → Option (Int32 × Int32)} {p k r : Nat} {ms ru : Nat → Int32} {mv : Nat → Nat → Int32 × Int32} {sz dy bo bg : Int32}
theorem dr4_g {a j : Nat} (h : dr4 a j) : gS K a j := by
  rcases h with h | h | h
  · exact drO_g h
  · subst h; exact g82 (by omega)
  · subst h; exact g92 (by omega)
theorem m84_n {k b : Nat} (h : b ≠ 84) : m84 I ms k b = I b := if_neg h
theorem m84_v {k j : Nat} : m84 I ms k 84 j = if j < k then ms j else I 84 j := by
  show (if 84 = 84 then (fun j => if j < k then ms j else I 84 j) else I 84) j = _
  rw [if_pos rfl]
theorem m84_0 : m84 I ms 0 = I := by
  funext b j
  by_cases hb : b = 84
  · subst hb; rw [m84_v, if_neg (by omega)]
  · rw [m84_n hb]
theorem m84_s {k : Nat} : zI (m84 I ms k) 84 k (ms k) = m84 I ms (k + 1) := by
  funext b j
  rw [zI_v]
  by_cases hb : b = 84
  · subst hb
    rw [m84_v, m84_v]
    by_cases hj : j = k
    · rw [if_pos ⟨rfl, hj⟩, if_pos (by omega), hj]
    · rw [if_neg (fun z => hj z.2)]
      by_cases g : j < k
      · rw [if_pos g, if_pos (by omega)]
      · rw [if_neg g, if_neg (by omega)]
  · rw [if_neg (fun z => hb z.1), m84_n hb, m84_n hb]
theorem m84_f {k : Nat} : Fz dr4 I (m84 I ms k) := fun a j h => by rw [m84_n (fun z => h (Or.inr (Or.inl z)))]
/-- down the chain -/
theorem c13_dr112 (hW : Wd K I np nr nb na t pid pts rid rp rk ln cx cy bid m par X Y A) (hm : ∀ q, q < 8 → I 84 q = ms q) (hp : p < np) {c : Nat} {lin : Nat → Nat} (hc : c ≤ 16) (h94 : ∀ k, k < c → I 94 k = nI (lin k) ∧ lin k < np) (hch : ∀ k, k + 1 < c → par (lin k) = some (lin (k + 1))) (h0 : lin 0 = p) (hbo : (bo = -1 ∧ ∀ p k, mv p k = (0, 0)) ∨ ∃ b, b < nb ∧ bo = nI b ∧ ∀ p k, mv p k = mvA A b p k)
    (h : ∀ I' L', Fz drO I I' → (∀ g, DrP ms (I 81) X Y rp rk nr pts par (fun p k => I 70 (10 * p + k)) (fun p k => I 71 (10 * p + k)) mv sz dy np p = some g → ∀ k, k < pts p → I' 92 k = (g k).1 ∧ I' 93 k = (g k).2) → Q (some (.int (bI (DrP ms (I 81) X Y rp rk nr pts par (fun p k => I 70 (10 * p + k)) (fun p k => I 71 (10 * p + k)) mv sz dy np p ≠ none)))) I' L') :
    ∀ j I1 L1 bg blk, j < c → Fz drO I I1 → BkR I1 bg blk → blkS ms X Y (fun p k => selR rp rk (I 81) p k dy nr) pts par (finS (fun p k => I 70 (10 * p + k)) (fun p k => I 71 (10 * p + k)) mv sz) np (lin j) blk → Z n0 xX13_draw (d + 10) 0 0 112 [(0, .ref (n0 + 59)), (2, .int sz), (3, .int dy), (4, .int bo), (7, .int bg), (8, .int (nI j))] [] K I1 L1 (z_q0 K Q) := by
  have hM := hW.2.1
  have hN := hW.2.2.2.2.1
  have hBl := hW.2.2.2.2.2.1
  have hnp := hW.2.2.2.1.n
  have hpar : ∀ q, q < np → ∀ b, par q = some b → b < q := fun q hq b e => ((hBl q hq).2.2.2 b e).1
  have keep : ∀ {I1}, Fz drO I I1 → I1 81 = I 81 ∧ I1 70 = I 70 ∧ I1 71 = I 71 ∧ I1 84 = I 84 ∧ I1 94 = I 94 ∧ I1 66 = I 66 := fun hI => ⟨funext fun q => hI _ _ (drO_n (by omega) (by omega) (by omega) (by omega) (by omega) (by omega)), funext fun q => hI _ _ (drO_n (by omega) (by omega) (by omega) (by omega) (by omega) (by omega)), funext fun q => hI _ _ (drO_n (by omega) (by omega) (by omega) (by omega) (by omega) (by omega)), funext fun q => hI _ _ (drO_n (by omega) (by omega) (by omega) (by omega) (by omega) (by omega)), funext fun q => hI _ _ (drO_n (by omega) (by omega) (by omega) (by omega) (by omega) (by omega)), funext fun q => hI _ _ (drO_n (by omega) (by omega) (by omega) (by omega) (by omega) (by omega))⟩
  intro j
  induction j with
  | zero =>
    intro I1 L1 bg blk hj hI hB hS
    obtain ⟨k1, k2, k3, k4, k5, k6⟩ := keep hI
    obtain ⟨e94, hl⟩ := h94 0 hj
    have hW1 := hW.fr KD.rf (hI.mono (fun a j z => drO_g z))
    have deq := drw_eq (ms := ms) (X := X) (Y := Y) (sel := fun p k => selR rp rk (I 81) p k dy nr) (pts := pts) (par := par) (fin := finS (fun p k => I 70 (10 * p + k)) (fun p k => I 71 (10 * p + k)) mv sz) hpar hl hS
    have e94' : I1 94 0 = nI (lin 0) := by rw [k5]; exact e94
    have n3 : I1 66 (lin 0) ≠ 3 → blk = none := fun z => by
      have hS' := hS
      unfold blkS at hS'
      cases ep : par (lin 0) with
      | none => rw [ep] at hS'; exact hS'
      | some b => exact absurd ((hBl (lin 0) hl).2.2.2 b ep).2.1 (by rw [← k6]; exact z)
    refine wp_X13_draw_112 hM (iq (by decide) ⟨q_inn (by omega) (by omega), ?_⟩)
    rw [show (nI 0).toNatClampNeg = 0 from rfl, e94']
    refine c13_drawOne (ms := ms) (ru := I 81) (blk := blk) (mv := mv) hW1 (fun q hq => by rw [k4]; exact hm q hq) k1 hl hB n3 hbo (fun e I2 L2 f2 => ⟨_, rfl, ?_⟩) (fun g e I2 L2 f2 f56 hx => ⟨_, rfl, ?_⟩)
    · have e' : DrP ms (I 81) X Y rp rk nr pts par (fun p k => I 70 (10 * p + k)) (fun p k => I 71 (10 * p + k)) mv sz dy np p = none := by
        rw [← h0]
        exact deq.trans (congrArg (fun r : Option (Nat → Int32 × Int32) => match r with | none => none | some f => some (fun k => finS (fun p k => I 70 (10 * p + k)) (fun p k => I 71 (10 * p + k)) mv sz (lin 0) k (f k))) e)
      refine wp_X13_draw_112 hM (ip (by decide) ⟨Or.inl rfl, ?_⟩)
      have := h I2 L2 (hI.trans f2) (fun g eg => by rw [e'] at eg; cases eg)
      rw [bI_f (by rw [e']; simp)] at this
      exact this
    · have e' : DrP ms (I 81) X Y rp rk nr pts par (fun p k => I 70 (10 * p + k)) (fun p k => I 71 (10 * p + k)) mv sz dy np p = some (fun k => finS (fun p k => I 70 (10 * p + k)) (fun p k => I 71 (10 * p + k)) mv sz (lin 0) k (g k)) := by
        rw [← h0]
        exact deq.trans (congrArg (fun r : Option (Nat → Int32 × Int32) => match r with | none => none | some f => some (fun k => finS (fun p k => I 70 (10 * p + k)) (fun p k => I 71 (10 * p + k)) mv sz (lin 0) k (f k))) e)
      refine wp_X13_draw_112 hM (ip (by decide) ⟨Or.inr rfl, ?_⟩)
      rw [k2, k3] at hx
      have := h I2 L2 (hI.trans f2) (fun g' eg k hk => by
        rw [e'] at eg
        have eg' := Option.some.inj eg
        rw [← eg']
        rw [← h0] at hk
        exact hx k hk)
      rw [bI_t (by rw [e']; simp)] at this
      exact this
  | succ j ih =>
    intro I1 L1 bg blk hj hI hB hS
    obtain ⟨k1, k2, k3, k4, k5, k6⟩ := keep hI
    obtain ⟨e94, hl⟩ := h94 (j + 1) hj
    have hW1 := hW.fr KD.rf (hI.mono (fun a j z => drO_g z))
    have deq := drw_eq (ms := ms) (X := X) (Y := Y) (sel := fun p k => selR rp rk (I 81) p k dy nr) (pts := pts) (par := par) (fin := finS (fun p k => I 70 (10 * p + k)) (fun p k => I 71 (10 * p + k)) mv sz) hpar hl hS
    have e94' : I1 94 (j + 1) = nI (lin (j + 1)) := by rw [k5]; exact e94
    have ep1 := hch j hj
    have hpt := (hN.2.2 _ hl).2.2.2
    have n3 : I1 66 (lin (j + 1)) ≠ 3 → blk = none := fun z => by
      have hS' := hS
      unfold blkS at hS'
      cases ep : par (lin (j + 1)) with
      | none => rw [ep] at hS'; exact hS'
      | some b => exact absurd ((hBl (lin (j + 1)) hl).2.2.2 b ep).2.1 (by rw [← k6]; exact z)
    refine wp_X13_draw_112 hM (iq (nI_pos (by omega)) ⟨q_inn (by omega) (by omega), ?_⟩)
    rw [q_cl (by omega), e94', nI_dn]
    refine c13_drawOne (ms := ms) (ru := I 81) (blk := blk) (mv := mv) hW1 (fun q hq => by rw [k4]; exact hm q hq) k1 hl hB n3 hbo (fun e I2 L2 f2 => ⟨_, rfl, ?_⟩) (fun g e I2 L2 f2 f56 hx => ⟨_, rfl, ?_⟩)
    · have e' : drwS ms X Y (fun p k => selR rp rk (I 81) p k dy nr) pts par (finS (fun p k => I 70 (10 * p + k)) (fun p k => I 71 (10 * p + k)) mv sz) np (lin (j + 1)) = none := deq.trans (congrArg (fun r : Option (Nat → Int32 × Int32) => match r with | none => none | some f => some (fun k => finS (fun p k => I 70 (10 * p + k)) (fun p k => I 71 (10 * p + k)) mv sz (lin (j + 1)) k (f k))) e)
      refine ih I2 L2 0 none (by omega) (hI.trans f2) (Or.inl ⟨rfl, rfl⟩) ?_
      unfold blkS
      rw [ep1]
      dsimp only
      rw [e']
    · have e' : drwS ms X Y (fun p k => selR rp rk (I 81) p k dy nr) pts par (finS (fun p k => I 70 (10 * p + k)) (fun p k => I 71 (10 * p + k)) mv sz) np (lin (j + 1)) = some (fun k => finS (fun p k => I 70 (10 * p + k)) (fun p k => I 71 (10 * p + k)) mv sz (lin (j + 1)) k (g k)) := deq.trans (congrArg (fun r : Option (Nat → Int32 × Int32) => match r with | none => none | some f => some (fun k => finS (fun p k => I 70 (10 * p + k)) (fun p k => I 71 (10 * p + k)) mv sz (lin (j + 1)) k (f k))) e)
      rw [k2, k3] at hx
      refine ih I2 L2 1 (some (pts (lin (j + 1)), fun k => finS (fun p k => I 70 (10 * p + k)) (fun p k => I 71 (10 * p + k)) mv sz (lin (j + 1)) k (g k))) (by omega) (hI.trans f2) (Or.inr ⟨rfl, _, _, rfl, hpt, f56, hx⟩) ?_
      unfold blkS
      rw [ep1]
      dsimp only
      rw [e']
/-- the measures -/
theorem c13_dr54 (hM : MLay K) {c : Nat} (h8 : ∀ k, k < 8 → ∀ L1, (∀ {Q : z_q}, Q (some (.int (ms k))) (m84 I ms k) L1 → (if bo < 0 then RM0 n0 xX13_tabledOn (d + 9) [.ref (n0 + 59), .int (nI k), .int sz, .int dy] K (m84 I ms k) L1 Q else RM0 n0 xX13_measuredOf (d + 9) [.ref (n0 + 59), .int bo, .int (nI k)] K (m84 I ms k) L1 Q)))
    (h : Z n0 xX13_draw (d + 10) 0 0 112 [(0, .ref (n0 + 59)), (2, .int sz), (3, .int dy), (4, .int bo), (7, .int 0), (8, .int (nI c - 1))] [] K (zI (m84 I ms 8) 59 56 0) L (z_q0 K Q)) :
    ∀ w k, k + w = 8 → Z n0 xX13_draw (d + 10) 0 0 54 [(0, .ref (n0 + 59)), (2, .int sz), (3, .int dy), (4, .int bo), (5, .int (nI c)), (7, .int (nI k))] [] K (m84 I ms k) L (z_q0 K Q) := by
  intro w
  induction w with
  | zero =>
    intro k hk
    have : k = 8 := by omega
    subst this
    exact wp_X13_draw_54 hM (iq (by decide) h)
  | succ w ih =>
    intro k hk
    have nx := ih (k + 1) (by omega)
    rw [← m84_s] at nx
    refine wp_X13_draw_54 hM (ip (nI_lt (b := 8) (by omega) (by omega)) ?_)
    have h8' := fun {Q : z_q} => @h8 k (by omega) L Q
    by_cases g : bo < 0
    · have := fun {Q : z_q} (z : Q (some (.int (ms k))) (m84 I ms k) L) => (by have q := h8' z; rw [if_pos g] at q; exact q : RM0 n0 xX13_tabledOn (d + 9) [.ref (n0 + 59), .int (nI k), .int sz, .int dy] K (m84 I ms k) L Q)
      refine ip g (this ⟨_, rfl, q_inn (by omega) (by omega), ?_⟩)
      rw [q_cl (by omega), ← nI_succ]
      exact nx
    · have := fun {Q : z_q} (z : Q (some (.int (ms k))) (m84 I ms k) L) => (by have q := h8' z; rw [if_neg g] at q; exact q : RM0 n0 xX13_measuredOf (d + 9) [.ref (n0 + 59), .int bo, .int (nI k)] K (m84 I ms k) L Q)
      refine iq g (this ⟨_, rfl, q_inn (by omega) (by omega), ?_⟩)
      rw [q_cl (by omega), ← nI_succ]
      exact nx
end RD3
