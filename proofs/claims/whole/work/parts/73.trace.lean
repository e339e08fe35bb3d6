/-! the ends of all ways round a piece -/
def stN (cv : Nat → Bool) (k : Nat) : Nat := if cv k = true then 8 else 1
def offN (cv : Nat → Bool) : Nat → Nat
  | 0 => 0
  | k + 1 => offN cv k + stN cv k
def wyN (cv : Nat → Bool) (nd : Nat → Nat → Int32 × Int32) : Nat → Nat → Int32 × Int32
  | 0, _ => (0, 0)
  | k + 1, n => if n < offN cv k then wyN cv nd k n else nd k (n - offN cv k)
def ndP (g : Nat → Int32 × Int32) (kx ky : Nat → Int32) (n k t : Nat) : Int32 × Int32 := (Int32.ofInt (ndZ t (g k).1.toInt (g (if k + 1 < n then k + 1 else 0)).1.toInt (kx k).toInt), Int32.ofInt (ndZ t (g k).2.toInt (g (if k + 1 < n then k + 1 else 0)).2.toInt (ky k).toInt))
def trS (a j : Nat) : Prop := (a = 8 ∧ j = 15) ∨ (18 ≤ a ∧ a ≤ 20)
def bnP (g : Nat → Int32 × Int32) (n : Nat) : Prop := ∀ k, k < n → (-1100000 ≤ (g k).1.toInt ∧ (g k).1.toInt ≤ 1100000) ∧ (-1100000 ≤ (g k).2.toInt ∧ (g k).2.toInt ≤ 1100000)
def bnK (kx ky : Nat → Int32) (n : Nat) : Prop := ∀ k, k < n → (-999 ≤ (kx k).toInt ∧ (kx k).toInt ≤ 999) ∧ (-999 ≤ (ky k).toInt ∧ (ky k).toInt ≤ 999)
section TRC
variable {n0 d : Nat} {K : z_K} {I : z_I} {L : z_L} {Q : z_q} {np nr nb na t : Nat} {pid pts rid rp rk ln cx cy bid m : Nat → Nat} {par : Nat → Option Nat} {X Y : Nat → List Int32} {A : Int32 → Int32 → Option (Int32 × Int32)} {p : Nat} {g : Nat → Int32 × Int32} {cv : Nat → Bool} {nd : Nat → Nat → Int32 × Int32}
theorem st_b (k : Nat) : 1 ≤ stN cv k ∧ stN cv k ≤ 8 := by unfold stN; split <;> omega
theorem off_b : ∀ k, k ≤ offN cv k ∧ offN cv k ≤ 8 * k := by
  intro k
  induction k with
  | zero => exact ⟨Nat.le_refl _, Nat.le_refl _⟩
  | succ k ih =>
    have := st_b (cv := cv) k
    show k + 1 ≤ offN cv k + stN cv k ∧ offN cv k + stN cv k ≤ 8 * (k + 1)
    omega
theorem off_m : ∀ {a b : Nat}, a ≤ b → offN cv a ≤ offN cv b := by
  intro a b h
  induction b with
  | zero => have e : a = 0 := by omega
            rw [e]; exact Nat.le_refl _
  | succ b ih =>
    by_cases e : a = b + 1
    · rw [e]; exact Nat.le_refl _
    · have := ih (by omega)
      show _ ≤ offN cv b + stN cv b
      omega
theorem wy_k : ∀ n k s, k < n → s < stN cv k → wyN cv nd n (offN cv k + s) = nd k s := by
  intro n
  induction n with
  | zero => intro k s h; omega
  | succ n ih =>
    intro k s hk hs
    show (if offN cv k + s < offN cv n then wyN cv nd n (offN cv k + s) else nd n (offN cv k + s - offN cv n)) = nd k s
    by_cases e : k = n
    · subst e
      rw [if_neg (by omega), Nat.add_sub_cancel_left]
    · have := off_m (cv := cv) (show k + 1 ≤ n by omega)
      have e1 : offN cv (k + 1) = offN cv k + stN cv k := rfl
      rw [if_pos (by omega)]
      exact ih k s (by omega) hs
theorem wy_le : ∀ {n k : Nat}, ∀ N, k ≤ N → n < offN cv k → wyN cv nd N n = wyN cv nd k n := by
  intro n k N
  induction N with
  | zero => intro h _; have e : k = 0 := by omega
            rw [e]
  | succ N ih =>
    intro h hn
    by_cases e : k = N + 1
    · rw [e]
    · have := off_m (cv := cv) (show k ≤ N by omega)
      show (if n < offN cv N then wyN cv nd N n else nd N (n - offN cv N)) = _
      rw [if_pos (by omega)]
      exact ih (by omega) hn
theorem trS_g {a j : Nat} (h : trS a j) : gS K a j := by
  rcases h with ⟨e, _⟩ | h
  · subst e; exact Or.inr (Or.inr (Or.inl rfl))
  · exact Or.inr (Or.inr (Or.inr (Or.inr (Or.inl (by omega)))))
theorem ofI {x : Int32} {z : Int} (h : x.toInt = z) : x = Int32.ofInt z := by rw [← h]; simp
theorem c2_trace_l (hW : Wd K I np nr nb na t pid pts rid rp rk ln cx cy bid m par X Y A) (hp : p < np) (hg : ∀ k, k < pts p → I 11 (10 * p + k) = (g k).1 ∧ I 12 (10 * p + k) = (g k).2) (hb : bnP g (pts p)) (hk : bnK (fun k => I 73 (10 * p + k)) (fun k => I 74 (10 * p + k)) (pts p)) (hcv : ∀ k, k < pts p → cv k = decide (¬ I 72 (10 * p + k) = 0))
    (h : ∀ I', Fz trS I I' → I' 8 15 = nI (offN cv (pts p)) → (∀ n, n < offN cv (pts p) → I' 18 n = (wyN cv (ndP g (fun k => I 73 (10 * p + k)) (fun k => I 74 (10 * p + k)) (pts p)) (pts p) n).1 ∧ I' 19 n = (wyN cv (ndP g (fun k => I 73 (10 * p + k)) (fun k => I 74 (10 * p + k)) (pts p)) (pts p) n).2) → (∀ k, k < pts p → I' 20 k = nI (offN cv k)) → Q none I' L) :
    ∀ w k I1, k + w = pts p → Fz trS I I1 → I1 8 15 = nI (offN cv k) → (∀ n, n < offN cv k → I1 18 n = (wyN cv (ndP g (fun k => I 73 (10 * p + k)) (fun k => I 74 (10 * p + k)) (pts p)) (pts p) n).1 ∧ I1 19 n = (wyN cv (ndP g (fun k => I 73 (10 * p + k)) (fun k => I 74 (10 * p + k)) (pts p)) (pts p) n).2) → (∀ q, q < k → I1 20 q = nI (offN cv q)) → Z n0 xX2_trace (d + 3) 0 0 7 [(0, .ref (n0 + 8)), (1, .ref (n0 + pid p)), (2, .int (nI k))] [] K I1 L (z_q0 K Q) := by
  have hC := hW.1
  have hP := hW.2.2.2.1
  have hN := hW.2.2.2.2.1
  have hG := hW.2.2.2.2.2.2.2.2.1
  have hlt := hP.lt hp
  have hge := hP.ge hp
  have hs := hP.s hp
  have hr := hP.r hp
  have hpt := (hN.2.2 p hp).2.2
  have hoff := off_b (cv := cv) (pts p)
  generalize hnd : ndP g (fun k => I 73 (10 * p + k)) (fun k => I 74 (10 * p + k)) (pts p) = nd at h ⊢
  have low : ∀ {I1}, Fz trS I I1 → ∀ x j, I1 (pid p + x) j = I (pid p + x) j := fun hI x j => hI _ _ (by unfold trS; omega)
  have low0 : ∀ {I1}, Fz trS I I1 → ∀ j, I1 (pid p) j = I (pid p) j := fun hI j => hI _ _ (by unfold trS; omega)
  have inner : ∀ k, k < pts p → (∀ I2, Fz trS I I2 → I2 8 15 = nI (offN cv (k + 1)) → (∀ n, n < offN cv (k + 1) → I2 18 n = (wyN cv nd (pts p) n).1 ∧ I2 19 n = (wyN cv nd (pts p) n).2) → (∀ q, q < k + 1 → I2 20 q = nI (offN cv q)) → Z n0 xX2_trace (d + 3) 0 0 7 [(0, .ref (n0 + 8)), (1, .ref (n0 + pid p)), (2, .int (nI (k + 1)))] [] K I2 L (z_q0 K Q)) → ∀ w s I1, s + w = stN cv k → Fz trS I I1 → I1 8 15 = nI (offN cv k + s) → (∀ n, n < offN cv k + s → I1 18 n = (wyN cv nd (pts p) n).1 ∧ I1 19 n = (wyN cv nd (pts p) n).2) → (∀ q, q < k + 1 → I1 20 q = nI (offN cv q)) → Z n0 xX2_trace (d + 3) 0 0 63 [(0, .ref (n0 + 8)), (1, .ref (n0 + pid p)), (2, .int (nI k)), (3, .int (nI (if k + 1 < pts p then k + 1 else 0))), (4, .int (nI (stN cv k))), (5, .int (nI s))] [] K I1 L (z_q0 K Q) := by
    intro k hkp next w
    have hst := st_b (cv := cv) k
    have hok := off_m (cv := cv) (show k + 1 ≤ pts p by omega)
    have eo : offN cv (k + 1) = offN cv k + stN cv k := rfl
    have hkn : (if k + 1 < pts p then k + 1 else 0) < pts p := by split <;> omega
    induction w with
    | zero =>
      intro s I1 hsw hI h15 hn h20
      have e : s = stN cv k := by omega
      refine wp_X2_trace_63 hC (iq (fun z => by have := q_lt.mp z; rw [q_nI (by omega), q_nI (by omega)] at this; omega) ?_)
      rw [← nI_succ]
      rw [e, ← eo] at h15 hn
      exact next I1 hI h15 hn h20
    | succ w ih =>
      intro s I1 hsw hI h15 hn h20
      have w1 := hW.fr KD.rf (hI.mono (fun a j z => trS_g z))
      have e11 : ∀ {I1}, Fz trS I I1 → ∀ j, j < pts p → I1 11 (10 * p + j) = (g j).1 ∧ I1 12 (10 * p + j) = (g j).2 := fun hI j hj => by rw [hI 11 _ (by unfold trS; omega), hI 12 _ (by unfold trS; omega)]; exact hg j hj
      have s8 : s < 8 := by omega
      have wk := wy_k (cv := cv) (nd := nd) (pts p) k s hkp (by omega)
      refine wp_X2_trace_63 hC (ip (nI_lt (by omega) (by omega)) (c2_placeOf w1 hp (by omega) ⟨_, rfl, c2_placeOf w1 hp (by omega) ⟨_, rfl, by omega, hP.cls hp, pid p + 5, hr.2.2.2.2.1, 10, by omega, hs.2.2.2.2.1, q_inn (by omega) (by omega), ?_⟩⟩))
      rw [if_pos rfl, if_pos rfl, (e11 hI k hkp).1, (e11 hI _ hkn).1, q_cl (by omega), low hI, (hG p k hp (by omega)).2.2.2.1]
      refine c2_onLine hC s8 (hb k hkp).1 (hb _ hkn).1 (hk k hkp).1 (fun r hr1 => ⟨_, rfl, ?_⟩)
      have er : r = (nd k s).1 := by rw [← hnd]; exact ofI hr1
      rw [h15, q_cl (n := offN cv k + s) (by omega)]
      have hI2 : Fz trS I (zI I1 18 (offN cv k + s) r) := hI.z (Or.inr ⟨by omega, by omega⟩)
      have w2 := hW.fr KD.rf (hI2.mono (fun a j z => trS_g z))
      refine ⟨q_inn (by omega) (by omega), c2_placeOf w2 hp (by omega) ⟨_, rfl, c2_placeOf w2 hp (by omega) ⟨_, rfl, pid p + 6, hr.2.2.2.2.2, 10, by omega, hs.2.2.2.2.2, q_inn (by omega) (by omega), ?_⟩⟩⟩
      rw [if_neg (by decide), if_neg (by decide), (e11 hI2 k hkp).2, (e11 hI2 _ hkn).2, low hI2, (hG p k hp (by omega)).2.2.2.2]
      refine c2_onLine hC s8 (hb k hkp).2 (hb _ hkn).2 (hk k hkp).2 (fun r2 hr2 => ⟨_, rfl, ?_⟩)
      have er2 : r2 = (nd k s).2 := by rw [← hnd]; exact ofI hr2
      rw [zI_r (show (8 : Nat) ≠ 18 by omega), h15, ← nI_succ, ← nI_succ]
      refine ⟨q_inn (by omega) (by omega), ih (s + 1) _ (by omega) ((hI2.z (Or.inr ⟨by omega, by omega⟩)).z (Or.inl ⟨rfl, rfl⟩)) ?_ (fun n hnn => ?_) (fun q hq => ?_)⟩
      · rw [zI_s, Nat.add_assoc]
      · by_cases e : n = offN cv k + s
        · subst e
          rw [zI_d (by omega), zI_d (by omega), zI_s, zI_d (by omega), zI_s, wk, er, er2]
          exact ⟨rfl, rfl⟩
        · rw [zI_d (by omega), zI_d (by omega), zI_d (by omega), zI_d (by omega), zI_d (by omega), zI_d (by omega)]
          exact hn n (by omega)
      · rw [zI_d (by omega), zI_d (by omega), zI_d (by omega)]; exact h20 q hq
  intro w
  induction w with
  | zero =>
    intro k I1 hkw hI h15 hn h20
    have e : k = pts p := by omega
    subst e
    have e2 : I1 (pid p) 2 = nI (pts p) := by rw [low0 hI]; exact (hN.2.2 p hp).1
    refine wp_X2_trace_7 hC ⟨by omega, hP.cls hp, ?_⟩
    rw [e2]
    exact iq (fun z => by have := q_lt.mp z; omega) (h I1 hI h15 hn h20)
  | succ w ih =>
    intro k I1 hkw hI h15 hn h20
    have hkp : k < pts p := by omega
    have e2 : I1 (pid p) 2 = nI (pts p) := by rw [low0 hI]; exact (hN.2.2 p hp).1
    refine wp_X2_trace_7 hC ⟨by omega, hP.cls hp, ?_⟩
    rw [e2, h15, q_cl (n := k) (by omega), zI_r (show pid p ≠ 20 by omega), e2, ← nI_succ]
    refine ip (nI_lt (by omega) (by omega)) ⟨q_inn (by omega) (by omega), pid p + 4, hr.2.2.2.1, 10, by omega, hs.2.2.2.1, q_inn (by omega) (by omega), ?_⟩
    rw [zI_r (show pid p + 4 ≠ 20 by omega), low hI, (hG p k hp (by omega)).2.2.1]
    have hI2 : Fz trS I (zI I1 20 k (nI (offN cv k))) := hI.z (Or.inr ⟨by omega, by omega⟩)
    have en : (if nI (k + 1) < nI (pts p) then nI (k + 1) else 0) = nI (if k + 1 < pts p then k + 1 else 0) := by
      by_cases q : k + 1 < pts p
      · rw [if_pos q, if_pos (nI_lt q (by omega))]
      · rw [if_neg q, if_neg (fun z => q (by have := q_lt.mp z; rw [q_nI (by omega), q_nI (by omega)] at this; omega))]; rfl
    have es : (if (I 72 (10 * p + k) : Int32) = 0 then (1 : Int32) else 8) = nI (stN cv k) := by
      unfold stN
      rw [hcv k hkp]
      by_cases q : I 72 (10 * p + k) = 0
      · rw [if_pos q, if_neg (by simp [q])]; rfl
      · rw [if_neg q, if_pos (by simp [q])]; rfl
    rw [en, es]
    refine inner k hkp (fun I2 a b c e => ih (k + 1) I2 (by omega) a b c e) (stN cv k) 0 _ (by omega) hI2 ?_ (fun n hnn => ?_) (fun q hq => ?_)
    · rw [zI_d (by omega)]; exact h15
    · rw [zI_d (by omega), zI_d (by omega)]; exact hn n hnn
    · by_cases e : q = k
      · subst e; rw [zI_s]
      · rw [zI_d (by omega)]; exact h20 q (by omega)
theorem c2_trace (hW : Wd K I np nr nb na t pid pts rid rp rk ln cx cy bid m par X Y A) (hp : p < np) (hg : ∀ k, k < pts p → I 11 (10 * p + k) = (g k).1 ∧ I 12 (10 * p + k) = (g k).2) (hb : bnP g (pts p)) (hk : bnK (fun k => I 73 (10 * p + k)) (fun k => I 74 (10 * p + k)) (pts p)) (hcv : ∀ k, k < pts p → cv k = decide (¬ I 72 (10 * p + k) = 0))
    (h : ∀ I', Fz trS I I' → I' 8 15 = nI (offN cv (pts p)) → (∀ n, n < offN cv (pts p) → I' 18 n = (wyN cv (ndP g (fun k => I 73 (10 * p + k)) (fun k => I 74 (10 * p + k)) (pts p)) (pts p) n).1 ∧ I' 19 n = (wyN cv (ndP g (fun k => I 73 (10 * p + k)) (fun k => I 74 (10 * p + k)) (pts p)) (pts p) n).2) → (∀ k, k < pts p → I' 20 k = nI (offN cv k)) → Q none I' L) : RM0 n0 xX2_trace (d + 3) [.ref (n0 + 8), .ref (n0 + pid p)] K I L Q := by
  have hz : Fz trS I (zI I 8 15 0) := Fz.rfl'.z (Or.inl ⟨rfl, rfl⟩)
  have w0 := hW.fr KD.rf (hz.mono (fun a j z => trS_g z))
  have k73 : zI I 8 15 0 73 = I 73 := zI_r (by omega)
  have k74 : zI I 8 15 0 74 = I 74 := zI_r (by omega)
  refine wp_X2_trace hW.1 (c2_trace_l (I := zI I 8 15 0) (g := g) (cv := cv) w0 hp (fun k hkp => by rw [zI_r (by omega), zI_r (by omega)]; exact hg k hkp) hb (by rw [k73, k74]; exact hk) (fun k hkp => by rw [zI_r (by omega)]; exact hcv k hkp) (fun I' a b c e => ?_) (pts p) 0 _ (by omega) Fz.rfl' zI_s (fun n hn => absurd hn (by show ¬ n < 0; omega)) (fun q hq => absurd hq (by omega)))
  rw [k73, k74] at c
  exact h I' (hz.trans a) b c e
end TRC
