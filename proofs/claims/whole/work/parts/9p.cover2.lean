section TUR
variable {n0 d o c t : Nat} {K : z_K} {I : z_I} {L : z_L} {Q : z_q} {f : Nat → Nat → Bool}
theorem c10_turn {wd hg : Nat} (ho : o < K.1) (hc : (K.2.1 o).1 = 10) (hr0 : K.2.2 o 0 = some c) (hcl : c < K.1) (hcs : K.2.1 c = (20, 24)) (hr : K.2.2 o 1 = some t) (htl : t < K.1) (hs : K.2.1 t = (20, 24)) (ot : t ≠ o) (ct : c ≠ t) (h2 : I o 2 = nI wd) (h3 : 0 < wd → I o 3 = nI hg) (hw : wd ≤ 24) (hh : hg ≤ 24)
    (h : ∀ I', Fz (fun a _ => a = t) I I' → (∀ k, k < 24 → ∀ q, q < 32 → tb (I' t k) q = (decide (k < wd) && (decide (q < hg) && tb (I c (wd - 1 - k)) (hg - 1 - q)))) → Q none I' L) :
    RM0 n0 xX10_turn (d + 1) [.ref (n0 + o)] K I L Q := by
  have lp : ∀ w i I1, i + w = wd → Fz (fun a _ => a = t) I I1 → (∀ k, k < i → ∀ q, q < 32 → tb (I1 t k) q = (decide (q < hg) && tb (I c (wd - 1 - k)) (hg - 1 - q))) → (∀ k, i ≤ k → k < 24 → I1 t k = 0) → Z n0 xX10_turn (d + 1) 0 0 10 [(0, .ref (n0 + o)), (1, .int (nI i))] [] K I1 L (z_q0 K Q) := by
    intro w
    induction w with
    | zero =>
      intro i I1 hi f1 t1 z1
      refine wp_X10_turn_10 ⟨ho, hc, ?_⟩
      rw [f1 o 2 (by omega), h2]
      refine iq (fun z => by have := (q_nlt (by omega) (by omega)).mp z; omega) (h I1 f1 (fun k hk q hq => ?_))
      by_cases e : k < wd
      · rw [decide_eq_true e, Bool.true_and]; exact t1 k (by omega) q hq
      · rw [decide_eq_false e, Bool.false_and, z1 k (by omega) hk, tb_0]
    | succ w ih =>
      intro i I1 hi f1 t1 z1
      refine wp_X10_turn_10 ⟨ho, hc, ?_⟩
      rw [f1 o 2 (by omega), h2]
      have es : nI wd - 1 - nI i = nI (wd - 1 - i) := by
        rw [show wd = i + (wd - 1 - i) + 1 by omega, nI_prev, nI_sb]
        congr 1
        omega
      refine ip (nI_lt (by omega) (by omega)) ⟨c, hr0, 24, hcl, hcs, ?_, ?_⟩
      · rw [es]; exact q_inn (by omega) (by omega)
      · rw [es, q_cl (by omega), f1 c _ (by omega)]
        refine c10_tu34 (I := I1) (i := i) (wd := wd) (hg := hg) (X := I c (wd - 1 - i)) ho hc hr htl hs ot (by rw [f1 o 3 (by omega)]; exact h3 (by omega)) hh (by omega) (fun I2 f2 t2 => ?_) hg 0 I1 (by omega) Fz.rfl' (fun q hq => by rw [decide_eq_false (Nat.not_lt_zero _), Bool.false_and, Bool.and_false, Bool.or_false])
        refine ih (i + 1) I2 (by omega) (f1.trans (f2.mono (fun a j z => z.1))) (fun k hk q hq => ?_) (fun k hk hk2 => ?_)
        · by_cases e : k = i
          · subst e; rw [t2 q hq, z1 k (by omega) (by omega), tb_0, Bool.false_or]
          · rw [f2 t k (by omega)]; exact t1 k (by omega) q hq
        · rw [f2 t k (by omega)]; exact z1 k (by omega) hk2
  refine wp_X10_turn ⟨ho, hc, t, hr, cJ_fill htl hs (by omega) ⟨rfl, ?_⟩⟩
  exact lp wd 0 _ (by omega) (fun a j z => by rw [flI_n z]) (fun k hk => by omega) (fun k _ hk => by rw [flI_s, if_pos hk])
/-- a shape's cells -/
def ShL (K : z_K) (o : Nat) : Prop := 36 ≤ o ∧ o ≤ 48 ∧ o + 2 < K.1 ∧ (K.2.1 o).1 = 10 ∧ K.2.2 o 0 = some (o + 1) ∧ K.2.2 o 1 = some (o + 2) ∧ K.2.1 (o + 1) = (20, 24) ∧ K.2.1 (o + 2) = (20, 24)
theorem ShL.kd {K' : z_K} (h : ShL K o) (hk : KD K K') : ShL K' o := by
  obtain ⟨h1, h2, h3, h4, h5, h6, h7, h8⟩ := h
  exact ⟨h1, h2, by rw [hk.1]; exact h3, by rw [hk.2.1]; exact h4, by rw [hk.2.2 o 0 (by omega)]; exact h5, by rw [hk.2.2 o 1 (by omega)]; exact h6, by rw [hk.2.1]; exact h7, by rw [hk.2.1]; exact h8⟩
/-- the cells, turned half round -/
def shT (f : Nat → Nat → Bool) (k q : Nat) : Bool := decide (k < shW f) && (decide (q < shH f) && shB f (shW f - 1 - k) (shH f - 1 - q))
/-- what cover leaves -/
def ShC (I : z_I) (o : Nat) (f : Nat → Nat → Bool) : Prop := I o 4 = nI (fcA f 24).1 ∧ (0 < (fcA f 24).1 → I o 2 = nI (shW f) ∧ I o 3 = nI (shH f) ∧ (∀ k, k < 24 → ∀ q, q < 32 → tb (I (o + 1) k) q = shB f k q) ∧ ∀ k, k < 24 → ∀ q, q < 32 → tb (I (o + 2) k) q = shT f k q)
def cvS (o a j : Nat) : Prop := trS a j ∨ (o ≤ a ∧ a ≤ o + 2)
theorem sh_b (h : 0 < (fcA f 24).1) : 1 ≤ shW f ∧ shW f ≤ 24 ∧ 1 ≤ shH f ∧ shH f ≤ 24 ∧ shW f + (fcA f 24).2.1 = (fcA f 24).2.2.2.1 + 1 ∧ shH f + (fcA f 24).2.2.1 = (fcA f 24).2.2.2.2 + 1 ∧ (fcA f 24).2.2.2.1 < 24 ∧ (fcA f 24).2.2.2.2 < 24 := by
  obtain ⟨G1, _, G3⟩ := fcG_A (f := f) 24 (Nat.le_refl _)
  obtain ⟨⟨q1, v1, t1⟩, ⟨q2, v2, t2⟩, ⟨c3, v3, t3⟩, c4, v4, t4⟩ := G3 h
  clear G3
  have g1 := G1 _ q1 v1 t1
  have g4 := G1 c3 _ v3 t3
  have a1 := v2.1
  have a2 := v4.2
  unfold shW shH
  omega
end TUR
section CVW
variable {n0 d o p : Nat} {K : z_K} {I : z_I} {L : z_L} {Q : z_q} {np nr nb na t : Nat} {pid pts rid rp rk ln cx cy bid m : Nat → Nat} {par : Nat → Option Nat} {X Y : Nat → List Int32} {A : Int32 → Int32 → Option (Int32 × Int32)} {g : Nat → Int32 × Int32} {s : Int32}
/-- the cells of a drawn piece -/
def ceB (I : z_I) (g : Nat → Int32 × Int32) (p n : Nat) (s : Int32) : Nat → Nat → Bool := clB (wyP I g p n) (offN (cvP I p) n) (vtN (I 66 p) (offN (cvP I p) n)) s
def ceW (I : z_I) (g : Nat → Int32 × Int32) (p n : Nat) (s : Int32) : Bool := wdB (wyP I g p n) (offN (cvP I p) n) (vtN (I 66 p) (offN (cvP I p) n)) s
theorem c10_cover (hW : Wd K I np nr nb na t pid pts rid rp rk ln cx cy bid m par X Y A) (hB : WdB I np A) (hp : p < np) (hg : ∀ k, k < pts p → I 11 (10 * p + k) = (g k).1 ∧ I 12 (10 * p + k) = (g k).2) (hb : bnP g (pts p)) (hSh : ShL K o) (h0 : 1 ≤ s.toInt) (h1 : s.toInt ≤ 100000)
    (hA : ∀ I', Fz (cvS o) I I' → ceW I g p (pts p) s = true → Q (some (.int 0)) I' L)
    (hS : ∀ I', Fz (cvS o) I I' → ceW I g p (pts p) s = false → ShC I' o (ceB I g p (pts p) s) → Q (some (.int (nI (fcA (ceB I g p (pts p) s) 24).1))) I' L) :
    RM0 n0 xX10_cover (d + 4) [.ref (n0 + o), .ref (n0 + 8), .ref (n0 + pid p), .int s] K I L Q := by
  obtain ⟨o1, o2, o3, o4, o5, o6, o7, o8⟩ := hSh
  have hC := hW.1
  have hP := hW.2.2.2.1
  have hpt := (hW.2.2.2.2.1.2.2 p hp).2.2
  have hnp := hP.n
  have hlt := hP.lt hp
  have hge := hP.ge hp
  have hoff := off_b (cv := cvP I p) (pts p)
  have hbW := wyP_b (I := I) (p := p) (g := g) (n := pts p) (by omega) hb (hB.bk hp hpt.2)
  have hkd := (hW.2.2.2.2.2.1 p hp).2.1
  have hc5 := (hP.2.1 p hp).2.2.2.1
  have q8 := co_8 hC
  have q18 := ca_18 hC
  have fz : Fz (cvS o) I (zI (flI I (o + 1) 24 0) o 4 0) := Fz.z (fun a j z => by rw [flI_n (fun y => z (Or.inr (by omega)))]) (Or.inr (by omega))
  have e0 : ∀ a, a ≠ o → a ≠ o + 1 → (zI (flI I (o + 1) 24 0) o 4 0) a = I a := fun a x y => by rw [zI_r x, flI_n y]
  have cvT : ∀ a j, cvS o a j → gT K a j := fun a j z => z.elim (fun z => gT_s (trS_g z)) (fun z => Or.inr (by omega))
  have wz := hW.fT KD.rf (fz.mono cvT)
  have e73 : (zI (flI I (o + 1) 24 0) o 4 0) 73 = I 73 := e0 73 (by omega) (by omega)
  have e74 : (zI (flI I (o + 1) 24 0) o 4 0) 74 = I 74 := e0 74 (by omega) (by omega)
  refine wp_X10_cover ⟨by omega, o4, o + 1, o5, cJ_fill (by omega) o7 (by omega) ⟨rfl, q8.1, q8.2, ?_⟩⟩
  refine c2_trace (d := d) (g := g) (cv := cvP I p) wz hp (fun k hk => by rw [e0 11 (by omega) (by omega), e0 12 (by omega) (by omega)]; exact hg k hk) hb (by rw [e73, e74]; exact hB.bk hp hpt.2) (fun k hk => by rw [e0 72 (by omega) (by omega)]; rfl) (fun I1 f1 h15 hx _ => ⟨rfl, ?_⟩)
  rw [e73, e74] at hx
  have hx' : ∀ n, n < offN (cvP I p) (pts p) → I1 18 n = (wyP I g p (pts p) n).1 ∧ I1 19 n = (wyP I g p (pts p) n).2 := hx
  have f1c : Fz (cvS o) I I1 := fz.trans (f1.mono (fun a j z => Or.inl z))
  have k1 : I1 (pid p) 1 = I 66 p := by rw [f1c (pid p) 1 (fun z => by unfold cvS trS at z; omega)]; exact hkd
  have cl1 : ∀ k, k < 24 → I1 (o + 1) k = 0 := fun k hk => by rw [f1 (o + 1) k (fun z => by unfold trS at z; omega), zI_r (by omega), flI_s, if_pos hk]
  have c41 : I1 o 4 = 0 := by rw [f1 o 4 (fun z => by unfold trS at z; omega), zI_s]
  unfold ceW at hA
  unfold ceW ceB at hS
  generalize eW : wyP I g p (pts p) = W at *
  generalize eN : offN (cvP I p) (pts p) = N at *
  have hw2 : ∀ k, k < N → (-2000000 ≤ (W k).1.toInt ∧ (W k).1.toInt ≤ 2000000) ∧ (-2000000 ≤ (W k).2.toInt ∧ (W k).2.toInt ≤ 2000000) := fun k hk => by have := hbW k hk; omega
  refine c10_spans (d := d + 2) (W := W) (N := N) hC (by omega) o4 (by omega) (by omega) (by omega) (by omega) h15 hx' (by omega) hc5 (by omega) (fun k hk => (hw2 k hk).1) (fun I2 f2 e5 e6 => ⟨_, rfl, ?_⟩)
  rw [k1] at e5 e6 ⊢
  have f2c : Fz (cvS o) I I2 := f1c.trans (f2.mono (fun a j z => Or.inr (by omega)))
  by_cases wb : wdB W N (vtN (I 66 p) N) s = true
  · rw [if_pos wb]
    exact ip rfl (hA I2 f2c wb)
  · rw [if_neg wb]
    have wf : wdB W N (vtN (I 66 p) N) s = false := by simpa using wb
    refine iq (by decide) ⟨by omega, hc5, 18, q18.1, 80, q18.2.1, q18.2.2, q_inn (c := 0) (by omega) (by omega), ?_⟩
    have k2 : I2 (pid p) 1 = I 66 p := by rw [f2 (pid p) 1 (by omega)]; exact k1
    have hx2 : ∀ n, n < N → I2 18 n = (W n).1 ∧ I2 19 n = (W n).2 := fun n hn => by rw [f2 18 n (by omega), f2 19 n (by omega)]; exact hx' n hn
    rw [k2, (hx2 0 (by omega)).1]
    refine c10_cv58 (d := d + 3) (I := I2) (W := W) (N := N) (M := vtN (I 66 p) N) (kd := I 66 p) (s := s) hC (by omega) o4 o5 (by omega) o7 (by omega) (by omega) (by omega) (by omega) (by omega) (by rw [f2 8 15 (by omega)]; exact h15) hx2 e5 e6 (fun I3 f3 t3 => ?_) N 0 I2 (by omega) Fz.rfl' (fun b hb q hq => by show _ = (_ ^^ false); rw [Bool.xor_false])
    have f3c : Fz (cvS o) I I3 := f2c.trans (f3.mono (fun a j z => Or.inr (by omega)))
    refine wp_X10_cover_58 ⟨q8.1, q8.2, ?_⟩
    rw [f3 8 15 (by omega), f2 8 15 (by omega), h15]
    refine iq (fun z => by have := q_lt.mp z; omega) ⟨by omega, o4, ?_⟩
    refine c10_moveHome (d := d + 2) (c := o + 1) (f := clB W N (vtN (I 66 p) N) s) (by omega) o4 o5 (by omega) o7 (by omega) (fun k hk q hq => ?_) (by rw [f3 o 4 (by omega), f2 o 4 (by omega)]; exact c41) (fun I4 f4 e4 z4 v4 => ⟨rfl, ?_⟩)
    · rw [t3 k hk q hq, f2 (o + 1) k (by omega), cl1 k hk, tb_0, Bool.false_xor]
      exact cv_col (by omega) hw2 h0 h1 hk
    have f4c : Fz (cvS o) I I4 := f3c.trans (f4.mono (fun a j z => Or.inr (by omega)))
    generalize eF : clB W N (vtN (I 66 p) N) s = f at *
    by_cases hn : 0 < (fcA f 24).1
    · obtain ⟨b1, b2, b3, b4, _⟩ := sh_b hn
      obtain ⟨v2, v3, vc⟩ := v4 hn
      refine c10_turn (d := d + 2) (c := o + 1) (t := o + 2) (wd := shW f) (hg := shH f) (by omega) o4 o5 (by omega) o7 o6 (by omega) o8 (by omega) (by omega) v2 (fun _ => v3) b2 b4 (fun I5 f5 t5 => ⟨rfl, ?_⟩)
      have e5' : I5 o 4 = nI (fcA f 24).1 := by rw [f5 o 4 (by omega)]; exact e4
      rw [e5']
      refine hS I5 (f4c.trans (f5.mono (fun a j z => Or.inr (by omega)))) wf ⟨e5', fun _ => ⟨by rw [f5 o 2 (by omega)]; exact v2, by rw [f5 o 3 (by omega)]; exact v3, fun k hk q hq => by rw [f5 (o + 1) k (by omega)]; exact vc k hk q hq, fun k hk q hq => ?_⟩⟩
      rw [t5 k hk q hq]
      unfold shT
      by_cases y : k < shW f
      · by_cases y2 : q < shH f
        · rw [vc _ (by omega) _ (by omega)]
        · rw [decide_eq_false y2, Bool.false_and, Bool.false_and]
      · rw [decide_eq_false y, Bool.false_and, Bool.false_and]
    · have hz : (fcA f 24).1 = 0 := by omega
      refine c10_turn (d := d + 2) (c := o + 1) (t := o + 2) (wd := 0) (hg := 0) (by omega) o4 o5 (by omega) o7 o6 (by omega) o8 (by omega) (by omega) (z4 hz) (fun z => by omega) (by omega) (by omega) (fun I5 f5 t5 => ⟨rfl, ?_⟩)
      have e5' : I5 o 4 = nI (fcA f 24).1 := by rw [f5 o 4 (by omega)]; exact e4
      rw [e5']
      exact hS I5 (f4c.trans (f5.mono (fun a j z => Or.inr (by omega)))) wf ⟨e5', fun z => absurd z hn⟩
end CVW
