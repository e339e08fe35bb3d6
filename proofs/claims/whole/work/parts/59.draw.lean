/-! what a drawn piece is -/
noncomputable def evXY (ms : Nat → Int32) (x y : List Int32) (f : Nat → Int32 × Int32) : Option (Int32 × Int32) :=
  if (evs ms (fun k => (f k).1) (fun k => (f k).2) (false, [], 0, 0) x).1 = true ∨ (evs ms (fun k => (f k).1) (fun k => (f k).2) (false, [], 0, 0) y).1 = true then none
  else some ((topV (evs ms (fun k => (f k).1) (fun k => (f k).2) (false, [], 0, 0) x)).toInt32, (topV (evs ms (fun k => (f k).1) (fun k => (f k).2) (false, [], 0, 0) y)).toInt32)
noncomputable def pntS (ms : Nat → Int32) (X Y : Nat → List Int32) (sl : Option Nat) (blk : Option (Nat × (Nat → Int32 × Int32))) (f : Nat → Int32 × Int32) (k : Nat) : Option (Int32 × Int32) :=
  match sl with
  | some r => evXY ms (X r) (Y r) f
  | none => match blk with
    | none => none
    | some g => if k < g.1 then some (g.2 k) else none
noncomputable def rawS (ms : Nat → Int32) (X Y : Nat → List Int32) (sel : Nat → Option Nat) (blk : Option (Nat × (Nat → Int32 × Int32))) : Nat → Option (Nat → Int32 × Int32)
  | 0 => some (fun _ => (0, 0))
  | k + 1 => match rawS ms X Y sel blk k with
    | none => none
    | some f => match pntS ms X Y (sel k) blk f k with
      | none => none
      | some v => some (fun t => if t = k then v else f t)
noncomputable def drwS (ms : Nat → Int32) (X Y : Nat → List Int32) (sel : Nat → Nat → Option Nat) (pts : Nat → Nat) (par : Nat → Option Nat) (fin : Nat → Nat → Int32 × Int32 → Int32 × Int32) : Nat → Nat → Option (Nat → Int32 × Int32)
  | 0, _ => none
  | F + 1, p => match rawS ms X Y (sel p) (match par p with
      | none => none
      | some q => match drwS ms X Y sel pts par fin F q with
        | none => none
        | some g => some (pts q, g)) (pts p) with
    | none => none
    | some f => some (fun k => fin p k (f k))
/-- grading, and the moves for a body -/
def finS (gx gy : Nat → Nat → Int32) (mv : Nat → Nat → Int32 × Int32) (sz : Int32) (p k : Nat) (v : Int32 × Int32) : Int32 × Int32 := (v.1 + gx p k * (sz - 5) + (mv p k).1, v.2 + gy p k * (sz - 5) + (mv p k).2)
section DSP
variable {ms ms' rx ry rx' ry' : Nat → Int32} {X Y : Nat → List Int32} {sel : Nat → Nat → Option Nat} {pts : Nat → Nat} {par : Nat → Option Nat} {fin : Nat → Nat → Int32 × Int32 → Int32 × Int32} {np j : Nat} {s : Bool × List Int64 × Int32 × Int32}
theorem drw_st (hb : ∀ q, q < np → ∀ b, par q = some b → b < q) : ∀ f q g, q < f → q < g → q < np → drwS ms X Y sel pts par fin f q = drwS ms X Y sel pts par fin g q := by
  intro f
  induction f with
  | zero => intro q g h; omega
  | succ f ih =>
    intro q g h1 h2 h3
    cases g with
    | zero => omega
    | succ g =>
      unfold drwS
      cases e : par q with
      | none => rfl
      | some b =>
        have := hb q h3 b e
        dsimp only
        rw [ih b g (by omega) (by omega) (by omega)]
def blkS (ms : Nat → Int32) (X Y : Nat → List Int32) (sel : Nat → Nat → Option Nat) (pts : Nat → Nat) (par : Nat → Option Nat) (fin : Nat → Nat → Int32 × Int32 → Int32 × Int32) (np p : Nat) (o : Option (Nat × (Nat → Int32 × Int32))) : Prop :=
  o = match par p with
    | none => none
    | some q => match drwS ms X Y sel pts par fin np q with
      | none => none
      | some g => some (pts q, g)
theorem drw_eq {p : Nat} {o : Option (Nat × (Nat → Int32 × Int32))} (hb : ∀ q, q < np → ∀ b, par q = some b → b < q) (hp : p < np) (ho : blkS ms X Y sel pts par fin np p o) : drwS ms X Y sel pts par fin np p = match rawS ms X Y (sel p) o (pts p) with | none => none | some f => some (fun k => fin p k (f k)) := by
  rw [drw_st hb np p (p + 1) hp (by omega) hp]
  unfold blkS at ho
  rw [ho]
  show (match rawS ms X Y (sel p) (match par p with
      | none => none
      | some q => match drwS ms X Y sel pts par fin p q with
        | none => none
        | some g => some (pts q, g)) (pts p) with
    | none => none
    | some f => some (fun k => fin p k (f k))) = _
  cases e : par p with
  | none => rfl
  | some b =>
    have := hb p hp b e
    show (match rawS ms X Y (sel p) (match drwS ms X Y sel pts par fin p b with
        | none => none
        | some g => some (pts b, g)) (pts p) with
      | none => none
      | some f => some (fun k => fin p k (f k))) = _
    rw [drw_st hb p b np this (by omega) (by omega)]
theorem evC_cg {u : Int32} (hj : j ≤ 10) (hm : ∀ k, k < 8 → ms' k = ms k) (hx : ∀ k, k < j → rx' k = rx k) (hy : ∀ k, k < j → ry' k = ry k) (h : okU j u ∨ u = 10034 ∨ (u = 10030 ∨ u = 10031 ∨ u = 10032 ∨ u = 10033)) : evC ms' rx' ry' s u = evC ms rx ry s u := by
  rcases h with (⟨k, hk, e⟩ | ⟨k, hk, e⟩ | ⟨k, hk, e⟩) | h | h
  · by_cases g : k < 10000
    · rw [u_small (by rw [e, q_nI (by omega)]; omega) (by rw [e, q_nI (by omega)]; omega), u_small (by rw [e, q_nI (by omega)]; omega) (by rw [e, q_nI (by omega)]; omega)]
    · have : u = 10000 + nI (97 + (k - 10000)) - 97 := by
        rw [e, show (10000 : Int32) = nI 10000 from rfl, q_nadd, show (97 : Int32) = nI 97 from rfl, q_nsub (by omega)]
        rw [show 10000 + (97 + (k - 10000)) - 97 = k from by omega]
      rw [this, evC_m (by omega), evC_m (by omega), hm _ (by omega)]
  · have : u = 10010 + nI k := by rw [show (10010 : Int32) = nI 10010 from rfl, q_nadd]; exact e
    rw [this, evC_x (by omega), evC_x (by omega), hx k hk]
  · have : u = 10020 + nI k := by rw [show (10020 : Int32) = nI 10020 from rfl, q_nadd]; exact e
    rw [this, evC_y (by omega), evC_y (by omega), hy k hk]
  · rw [h, evC_rt, evC_rt]
  · rw [evC_op h, evC_op h]
theorem evs_cg (hj : j ≤ 10) (hm : ∀ k, k < 8 → ms' k = ms k) (hx : ∀ k, k < j → rx' k = rx k) (hy : ∀ k, k < j → ry' k = ry k) : ∀ (c : List Int32) (m m' : Nat) (s : Bool × List Int64 × Int32 × Int32), wfC j c m m' → evs ms' rx' ry' s c = evs ms rx ry s c := by
  intro c
  induction c with
  | nil => intro m m' s _; exact (show s = s from rfl)
  | cons u c ih =>
    intro m m' s h
    show evs ms' rx' ry' (evC ms' rx' ry' s u) c = evs ms rx ry (evC ms rx ry s u) c
    rcases h with ⟨a, b⟩ | ⟨a, b, e⟩ | ⟨a, b, e⟩
    · rw [evC_cg hj hm hx hy (Or.inl a)]; exact ih _ _ _ b
    · rw [evC_cg hj hm hx hy (Or.inr (Or.inl a))]; exact ih _ _ _ e
    · rw [evC_cg hj hm hx hy (Or.inr (Or.inr a))]; exact ih _ _ _ e
/-- the length of the pile, from the codes -/
theorem wf_len : ∀ (c : List Int32) (m m' : Nat) (s : Bool × List Int64 × Int32 × Int32), j ≤ 10 → wfC j c m m' → s.2.1.length = m → (evs ms rx ry s c).2.1.length = m' := by
  intro c
  induction c with
  | nil => intro m m' s _ h e; have h' : m' = m := h; rw [h']; exact e
  | cons u c ih =>
    intro m m' s hj h e
    show (evs ms rx ry (evC ms rx ry s u) c).2.1.length = m'
    rcases h with ⟨a, b⟩ | ⟨a, b, e2⟩ | ⟨a, b, e2⟩
    · obtain ⟨v, hv⟩ := okU_v (ms := ms) (rx := rx) (ry := ry) hj a
      obtain ⟨w, hw⟩ := hv s
      refine ih _ _ _ hj b ?_
      rw [hw, evP_l, e]
    · refine ih _ _ _ hj e2 ?_
      rw [a, evC_rt, evR_l (by omega), e]
    · refine ih _ _ _ hj e2 ?_
      rw [evC_op a, evW_l (by omega), e]
/-- the number that is none is no answer of a code that goes through -/
theorem vlC_no {c : List Int32} (hj : j ≤ 10) (hw : wfC j c 0 1) : (vlC (evs ms rx ry (false, [], 0, 0) c) = noL) ↔ (evs ms rx ry (false, [], 0, 0) c).1 = true := by
  unfold vlC
  by_cases g : (evs ms rx ry (false, [], 0, 0) c).1 = true
  · rw [if_pos g]; exact ⟨fun _ => g, fun _ => rfl⟩
  · rw [if_neg g]
    refine ⟨fun z => ?_, fun z => absurd z g⟩
    exfalso
    have hl := wf_len (ms := ms) (rx := rx) (ry := ry) c 0 1 (false, [], 0, 0) hj hw rfl
    have hok : okV (evs ms rx ry (false, [], 0, 0) c) := okV_s c _ (fun v hv => absurd hv (by simp))
    cases q : (evs ms rx ry (false, [], 0, 0) c).2.1 with
    | nil => rw [q] at hl; exact absurd hl (by decide)
    | cons v W =>
      have := hok v (by rw [q]; exact List.mem_cons_self)
      unfold topV at z
      rw [q] at z
      have z' : v = noL := z
      rw [z'] at this
      have e : noL.toInt = -1152921504606846976 := rfl
      omega
end DSP
section DCM
variable {n0 d : Nat} {K : z_K} {I : z_I} {L : z_L} {Q : z_q} {np nr nb na t : Nat} {pid pts rid rp rk ln cx cy bid m : Nat → Nat} {par : Nat → Option Nat} {X Y : Nat → List Int32} {A : Int32 → Int32 → Option (Int32 × Int32)} {p k r : Nat} {ms : Nat → Int32} {f : Nat → Int32 × Int32}
theorem c2_takeRule (hW : Wd K I np nr nb na t pid pts rid rp rk ln cx cy bid m par X Y A) (hr : r < nr) (hk : rk r = k) (hk10 : k < 10) (hm : ∀ q, q < 8 → I 9 q = ms q) (hf : ∀ q, q < k → I 13 q = (f q).1 ∧ I 14 q = (f q).2)
    (h0 : evXY ms (X r) (Y r) f = none → ∀ L', Q (some (.int 0)) I L') (h1 : ∀ v, evXY ms (X r) (Y r) f = some v → ∀ L', Q (some (.int 1)) (zI (zI I 13 k v.1) 14 k v.2) L') : RM0 n0 xX2_takeFromRule (d + 2) [.ref (n0 + 8), .ref (n0 + rid r), .int (nI k)] K I L Q := by
  have hC := hW.1
  have hR := hW.2.2.2.2.2.2.1
  obtain ⟨a1, a2, a3, a4, a5, b1, b2, b3, b4, b5, c1, c2, c3, c4, c5⟩ := hW.2.2.2.2.2.2.2.1 r hr
  obtain ⟨r1, r2, r3, r4, r5, r6, r7, r8, r9⟩ := hR.2.2.2.1 r hr
  rw [hk] at a4
  have hwf := pT_wf (by omega) a4
  refine wp_X2_takeFromRule hC ⟨r7, r8, cx r, b4, c2_valueOf hC (show k ≤ 10 by omega) b2 b3 (by omega) b5 hwf.1 (fun L1 hL1 => ⟨_, rfl, cy r, c4, c2_valueOf hC (show k ≤ 10 by omega) c2 c3 (by omega) c5 hwf.2 (fun L2 hL2 => ⟨_, rfl, ?_⟩)⟩)⟩
  have ex : evs (I 9) (I 13) (I 14) (false, [], 0, 0) (X r) = evs ms (fun q => (f q).1) (fun q => (f q).2) (false, [], 0, 0) (X r) := evs_cg (show k ≤ 10 by omega) hm (fun q hq => (hf q hq).1) (fun q hq => (hf q hq).2) _ 0 1 _ hwf.1
  have ey : evs (I 9) (I 13) (I 14) (false, [], 0, 0) (Y r) = evs ms (fun q => (f q).1) (fun q => (f q).2) (false, [], 0, 0) (Y r) := evs_cg (show k ≤ 10 by omega) hm (fun q hq => (hf q hq).1) (fun q hq => (hf q hq).2) _ 0 1 _ hwf.2
  rw [ex, ey]
  have nx := vlC_no (ms := ms) (rx := fun q => (f q).1) (ry := fun q => (f q).2) (show k ≤ 10 by omega) hwf.1
  have ny := vlC_no (ms := ms) (rx := fun q => (f q).1) (ry := fun q => (f q).2) (show k ≤ 10 by omega) hwf.2
  have ev : evXY ms (X r) (Y r) f = if (evs ms (fun k => (f k).1) (fun k => (f k).2) (false, [], 0, 0) (X r)).1 = true ∨ (evs ms (fun k => (f k).1) (fun k => (f k).2) (false, [], 0, 0) (Y r)).1 = true then none else some ((topV (evs ms (fun k => (f k).1) (fun k => (f k).2) (false, [], 0, 0) (X r))).toInt32, (topV (evs ms (fun k => (f k).1) (fun k => (f k).2) (false, [], 0, 0) (Y r))).toInt32) := rfl
  by_cases gx : (evs ms (fun k => (f k).1) (fun k => (f k).2) (false, [], 0, 0) (X r)).1 = true
  · rw [if_pos (Or.inl gx)] at ev
    exact ip (nx.mpr gx) (h0 ev _)
  · by_cases gy : (evs ms (fun k => (f k).1) (fun k => (f k).2) (false, [], 0, 0) (Y r)).1 = true
    · rw [if_pos (Or.inr gy)] at ev
      exact iq (fun z => gx (nx.mp z)) (ip (ny.mpr gy) (h0 ev _))
    · rw [if_neg (fun z => z.elim gx gy)] at ev
      refine iq (fun z => gx (nx.mp z)) (iq (fun z => gy (ny.mp z)) ⟨q_inn hk10 (by omega), ?_⟩)
      rw [q_cl (by omega)]
      have h1' := h1 _ ev L2
      unfold vlC
      rw [if_neg gx, if_neg gy]
      exact h1'
theorem q_10j {a b : Nat} : nI a * 10 + nI b = nI (10 * a + b) := by
  rw [show (10 : Int32) = nI 10 from rfl, q_nmul, q_nadd, Nat.mul_comm]
theorem c2_placeOf {ax : Int32} (hW : Wd K I np nr nb na t pid pts rid rp rk ln cx cy bid m par X Y A) (hp : p < np) (hk : k < 10) (h : Q (some (.int (if ax = 0 then I 11 (10 * p + k) else I 12 (10 * p + k)))) I L) : RM0 n0 xX2_placeOf d [.ref (n0 + 8), .ref (n0 + pid p), .int (nI k), .int ax] K I L Q := by
  have hP := hW.2.2.2.1
  have hnp := hP.n
  have hlt := hP.lt hp
  have e0 := (hW.2.2.2.2.2.1 p hp).1
  refine wp_X2_placeOf hW.1 ⟨by omega, hP.cls hp, ?_⟩
  rw [e0, q_10j, q_cl (by omega)]
  exact ⟨fun _ => q_inn (by omega) (by omega), fun _ => q_inn (by omega) (by omega), h⟩
end DCM
