/-! a line's length on both sides -/
def cvP (I : z_I) (p k : Nat) : Bool := decide (¬ I 72 (10 * p + k) = 0)
def wyP (I : z_I) (g : Nat → Int32 × Int32) (p n : Nat) : Nat → Int32 × Int32 := wyN (cvP I p) (ndP g (fun k => I 73 (10 * p + k)) (fun k => I 74 (10 * p + k)) n) n
noncomputable def LenP (I : z_I) (g : Nat → Int32 × Int32) (p n a b : Nat) : Int32 := nI (lenN (wyP I g p n) (cvP I p) n a b)
/-- bounds of what is told for points -/
def WdB (I : z_I) (np : Nat) (A : Int32 → Int32 → Option (Int32 × Int32)) : Prop := (∀ p k, p < np → k < 10 → (-99 ≤ (I 70 (10 * p + k)).toInt ∧ (I 70 (10 * p + k)).toInt ≤ 99) ∧ (-99 ≤ (I 71 (10 * p + k)).toInt ∧ (I 71 (10 * p + k)).toInt ≤ 99) ∧ (-999 ≤ (I 73 (10 * p + k)).toInt ∧ (I 73 (10 * p + k)).toInt ≤ 999) ∧ (-999 ≤ (I 74 (10 * p + k)).toInt ∧ (I 74 (10 * p + k)).toInt ≤ 999)) ∧ ∀ b k v, A b k = some v → (-999 ≤ v.1.toInt ∧ v.1.toInt ≤ 999) ∧ (-999 ≤ v.2.toInt ∧ v.2.toInt ≤ 999)
section LNO
variable {n0 d : Nat} {K : z_K} {I I' : z_I} {L : z_L} {Q : z_q} {np nr nb na t : Nat} {pid pts rid rp rk ln cx cy bid m : Nat → Nat} {par : Nat → Option Nat} {X Y : Nat → List Int32} {A : Int32 → Int32 → Option (Int32 × Int32)} {p a b n : Nat} {g : Nat → Int32 × Int32} {cv : Nat → Bool} {nd : Nat → Nat → Int32 × Int32}
theorem WdB.fT (h : WdB I np A) (hI : Fz (gT K) I I') : WdB I' np A := by
  refine ⟨fun p k hp hk => ?_, h.2⟩
  rw [hI 70 _ (by unfold gT gS; omega), hI 71 _ (by unfold gT gS; omega), hI 73 _ (by unfold gT gS; omega), hI 74 _ (by unfold gT gS; omega)]
  exact h.1 p k hp hk
theorem LenP_f (hI : Fz (gT K) I I') : LenP I' g p n a b = LenP I g p n a b := by
  unfold LenP wyP cvP
  rw [show I' 72 = I 72 from funext fun q => hI 72 q (by unfold gT gS; omega), show I' 73 = I 73 from funext fun q => hI 73 q (by unfold gT gS; omega), show I' 74 = I 74 from funext fun q => hI 74 q (by unfold gT gS; omega)]
theorem off_x : ∀ n i, i < offN cv n → ∃ k s, k < n ∧ s < stN cv k ∧ i = offN cv k + s := by
  intro n
  induction n with
  | zero => intro i h; exact absurd h (by show ¬ i < 0; omega)
  | succ n ih =>
    intro i h
    have e : offN cv (n + 1) = offN cv n + stN cv n := rfl
    by_cases q : i < offN cv n
    · obtain ⟨k, s, h1, h2, h3⟩ := ih i q
      exact ⟨k, s, by omega, h2, h3⟩
    · exact ⟨n, i - offN cv n, by omega, by omega, by omega⟩
theorem q_ofI {z : Int} (h1 : -2147483648 ≤ z) (h2 : z < 2147483648) : (Int32.ofInt z).toInt = z := by
  rw [Int32.toInt_ofInt]
  show z.bmod 4294967296 = z
  exact Int.bmod_eq_of_le (by omega) (by omega)
theorem wyP_b (hn : 1 ≤ n) (hb : bnP g n) (hk : bnK (fun k => I 73 (10 * p + k)) (fun k => I 74 (10 * p + k)) n) : bnW (wyP I g p n) (offN (cvP I p) n) := by
  intro i hi
  obtain ⟨k, s, h1, h2, h3⟩ := off_x n i hi
  subst h3
  have e : wyP I g p n (offN (cvP I p) k + s) = ndP g (fun k => I 73 (10 * p + k)) (fun k => I 74 (10 * p + k)) n k s := wy_k n k s h1 h2
  rw [e]
  have hs := st_b (cv := cvP I p) k
  have hkn : (if k + 1 < n then k + 1 else 0) < n := by split <;> omega
  have b1 := hb k h1
  have b2 := hb _ hkn
  have b3 := hk k h1
  have z1 := ndZ_b (t := s) (B := 1100000) (show s < 8 by omega) b1.1 b2.1 b3.1 (by omega)
  have z2 := ndZ_b (t := s) (B := 1100000) (show s < 8 by omega) b1.2 b2.2 b3.2 (by omega)
  unfold ndP
  rw [q_ofI (by omega) (by omega), q_ofI (by omega) (by omega)]
  omega
theorem WdB.bk (h : WdB I np A) (hp : p < np) (hn : n ≤ 10) : bnK (fun k => I 73 (10 * p + k)) (fun k => I 74 (10 * p + k)) n := fun k hk => ⟨(h.1 p k hp (by omega)).2.2.1, (h.1 p k hp (by omega)).2.2.2⟩
theorem c2_lengthOf (hW : Wd K I np nr nb na t pid pts rid rp rk ln cx cy bid m par X Y A) (hB : WdB I np A) (hp : p < np) (hg : ∀ k, k < pts p → I 11 (10 * p + k) = (g k).1 ∧ I 12 (10 * p + k) = (g k).2) (hb : bnP g (pts p)) (ha : a < pts p) (hbb : b < pts p)
    (h : ∀ I', Fz trS I I' → Q (some (.int (LenP I g p (pts p) a b))) I' L) : RM0 n0 xX2_lengthOf (d + 4) [.ref (n0 + 8), .ref (n0 + pid p), .int (nI a), .int (nI b)] K I L Q := by
  have hpt := (hW.2.2.2.2.1.2.2 p hp).2.2
  have hk := hB.bk hp hpt.2
  have hoff := off_b (cv := cvP I p) (pts p)
  have hoa := off_m (cv := cvP I p) (show a + 1 ≤ pts p by omega)
  have eoa : offN (cvP I p) (a + 1) = offN (cvP I p) a + stN (cvP I p) a := rfl
  have hsa := st_b (cv := cvP I p) a
  have hob := off_m (cv := cvP I p) (show b + 1 ≤ pts p by omega)
  have eob : offN (cvP I p) (b + 1) = offN (cvP I p) b + stN (cvP I p) b := rfl
  have hsb := st_b (cv := cvP I p) b
  refine wp_X2_lengthOf hW.1 (c2_trace (d := d) (g := g) (cv := cvP I p) hW hp hg hb hk (fun _ _ => rfl) (fun I1 f1 h15 hx h20 => ⟨rfl, q_inn (by omega) (by omega), q_inn (by omega) (by omega), ?_⟩))
  rw [q_cl (n := a) (by omega), q_cl (n := b) (by omega), h20 a ha, h20 b hbb, h15]
  have key : ∀ wy F : Nat, offN (cvP I p) a + wy = F → F ≤ 2 * offN (cvP I p) (pts p) → wy ≤ offN (cvP I p) (pts p) → F = poV (cvP I p) (pts p) (if a < b then b else pts p + b) → Z n0 xX2_lengthOf (d + 4) 0 0 48 [(0, .ref (n0 + 8)), (4, .int (nI wy)), (5, .long 0), (7, .int (nI (offN (cvP I p) a))), (8, .int 0)] [] K I1 L (z_q0 K Q) := by
    intro wy F h1 h2 h3 h4
    have hr := h I1 f1
    unfold LenP lenN at hr
    rw [← h4] at hr
    have lp := c2_len_l (n0 := n0) (d := d + 3) (K := K) (I := I1) (L := L) (Q := Q) (W := wyP I g p (pts p)) (N := offN (cvP I p) (pts p)) (oa := offN (cvP I p) a) hW.1 (by omega) (wyP_b (by omega) hb hk) h15 hx (by omega) h1 h2 h3 hr wy 0 0 (by omega) (by
      show (0 : Int) = _
      rw [Nat.add_zero]
      unfold acN
      rw [if_pos (by omega), Nat.sub_self]; rfl)
    rw [Nat.add_zero, if_pos (by omega)] at lp
    exact lp
  by_cases g1 : a < b
  · have hab := off_m (cv := cvP I p) (show a + 1 ≤ b by omega)
    rw [q_nsub (by omega), if_pos (by show nI 0 < _; exact nI_lt (by omega) (by omega))]
    refine key _ (offN (cvP I p) b) (by omega) (by omega) (by omega) ?_
    unfold poV
    rw [if_pos g1, if_pos hbb]
  · have hab := off_m (cv := cvP I p) (show b ≤ a by omega)
    have e1 : (nI (offN (cvP I p) b) - nI (offN (cvP I p) a)).toInt = (offN (cvP I p) b : Int) - offN (cvP I p) a := by rw [q_sub (by rw [q_nI (by omega), q_nI (by omega)]; omega) (by rw [q_nI (by omega), q_nI (by omega)]; omega), q_nI (by omega), q_nI (by omega)]
    have e2 : nI (offN (cvP I p) b) - nI (offN (cvP I p) a) + nI (offN (cvP I p) (pts p)) = nI (offN (cvP I p) (pts p) + offN (cvP I p) b - offN (cvP I p) a) := by
      refine q_eq.mpr ?_
      rw [q_add (by rw [e1, q_nI (by omega)]; omega) (by rw [e1, q_nI (by omega)]; omega), e1, q_nI (by omega), q_nI (by omega)]
      omega
    rw [if_neg (fun z => by have := q_lt.mp z; rw [e1] at this; have e0 : (0 : Int32).toInt = 0 := rfl; omega), e2]
    refine key _ (offN (cvP I p) (pts p) + offN (cvP I p) b) (by omega) (by omega) (by omega) ?_
    unfold poV
    rw [if_neg g1, if_neg (by omega), Nat.add_sub_cancel_left]
theorem c13_lengthOf (hW : Wd K I np nr nb na t pid pts rid rp rk ln cx cy bid m par X Y A) (hB : WdB I np A) (hp : p < np) (hg : ∀ k, k < pts p → I 92 k = (g k).1 ∧ I 93 k = (g k).2) (hb : bnP g (pts p)) (ha : a < pts p) (hbb : b < pts p)
    (h : ∀ I', Fz fwS I I' → Q (some (.int (LenP I g p (pts p) a b))) I' L) : RM0 n0 xX13_lengthOf (d + 4) [.ref (n0 + 59), .int (nI p), .int (nI a), .int (nI b)] K I L Q := by
  have hpt := (hW.2.2.2.2.1.2.2 p hp).2.2
  have hnp := hW.2.2.2.1.n
  have hk := hB.bk hp hpt.2
  refine wp_X13_lengthOf hW.2.1 (c13_findWays (d := d) (g := g) (cv := cvP I p) hW hp hg hb hk (fun _ _ => rfl) (fun I1 f1 h61 hx hN h97 => ⟨rfl, ?_⟩))
  have w0 : wyP I g p (pts p) 0 = g 0 := by
    have e : wyP I g p (pts p) (offN (cvP I p) 0 + 0) = ndP g (fun k => I 73 (10 * p + k)) (fun k => I 74 (10 * p + k)) (pts p) 0 0 := wy_k (pts p) 0 0 (by omega) (by have := st_b (cv := cvP I p) 0; omega)
    have e' : wyP I g p (pts p) 0 = ndP g (fun k => I 73 (10 * p + k)) (fun k => I 74 (10 * p + k)) (pts p) 0 0 := e
    rw [e']
    unfold ndP
    show (Int32.ofInt (ndZ 0 _ _ _), Int32.ofInt (ndZ 0 _ _ _)) = _
    rw [ndZ_0, ndZ_0]; simp
  rw [← w0] at hN
  have e67 : I1 67 p = nI (pts p) := by rw [f1 67 p (by unfold fwS; omega)]; exact (hW.2.2.2.2.1.2.2 p hp).2.1
  have lp := c13_len14 (n0 := n0) (d := d + 3) (K := K) (I := I1) (L := L) (Q := Q) (W := wyP I g p (pts p)) (n := pts p) (p := p) (a := a) (b := b) (cv := cvP I p) (V := if a < b then b else pts p + b) hW.2.1 hpt (wyP_b (by omega) hb hk) h97 hx hN e67 (by omega) ha hbb rfl (h I1 f1) ((if a < b then b else pts p + b) - a) a (by split <;> omega) (Nat.le_refl _)
  have hp0 : poV (cvP I p) (pts p) a = offN (cvP I p) a := by unfold poV; rw [if_pos ha]
  have hoff := off_m (cv := cvP I p) (show a ≤ pts p by omega)
  have ha0 : acN (eW (wyP I g p (pts p)) (offN (cvP I p) (pts p))) (offN (cvP I p) (pts p)) (offN (cvP I p) a) (offN (cvP I p) a) = 0 := by unfold acN; rw [if_pos hoff, Nat.sub_self]
  rw [hp0, ha0, if_neg (by split <;> omega), show atV (pts p) a = a from if_pos ha] at lp
  exact lp
end LNO
