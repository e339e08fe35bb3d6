/-! how far a drawn point may lie -/
def bnV (B : Int) (v : Int32 × Int32) : Prop := (-B ≤ v.1.toInt ∧ v.1.toInt ≤ B) ∧ (-B ≤ v.2.toInt ∧ v.2.toInt ≤ B)
section BND
variable {I : z_I} {np nr nb na t : Nat} {pts rp rk : Nat → Nat} {par : Nat → Option Nat} {X Y : Nat → List Int32} {A : Int32 → Int32 → Option (Int32 × Int32)} {ms ru : Nat → Int32} {sel : Nat → Nat → Option Nat} {fin : Nat → Nat → Int32 × Int32 → Int32 × Int32} {f g : Nat → Int32 × Int32} {dy : Int32}
theorem top_b {s : Bool × List Int64 × Int32 × Int32} (h : okV s) : -1000000 ≤ (topV s).toInt ∧ (topV s).toInt ≤ 1000000 := by
  unfold topV
  cases q : s.2.1 with
  | nil => show -1000000 ≤ (0 : Int64).toInt ∧ (0 : Int64).toInt ≤ 1000000; decide
  | cons v W => exact h v (by rw [q]; exact List.mem_cons_self)
theorem evXY_b {x y : List Int32} {v : Int32 × Int32} (h : evXY ms x y f = some v) : bnV 1000000 v := by
  unfold evXY at h
  split at h
  · cases h
  · have e := Option.some.inj h
    have t1 := top_b (okV_s (ms := ms) (rx := fun k => (f k).1) (ry := fun k => (f k).2) x (false, [], 0, 0) (fun v hv => absurd hv (by simp)))
    have t2 := top_b (okV_s (ms := ms) (rx := fun k => (f k).1) (ry := fun k => (f k).2) y (false, [], 0, 0) (fun v hv => absurd hv (by simp)))
    rw [← e]
    unfold bnV
    rw [q_l2i (by omega) (by omega), q_l2i (by omega) (by omega)]
    exact ⟨t1, t2⟩
theorem raw_b {B : Int} {sl : Nat → Option Nat} {blk : Option (Nat × (Nat → Int32 × Int32))} (hB : 1000000 ≤ B) (hblk : ∀ n gg, blk = some (n, gg) → ∀ k, k < n → bnV B (gg k)) : ∀ n f, rawS ms X Y sl blk n = some f → ∀ k, k < n → bnV B (f k) := by
  intro n
  induction n with
  | zero => intro f _ k hk; omega
  | succ n ih =>
    intro f h k hk
    cases e : rawS ms X Y sl blk n with
    | none => rw [raw_no e (Nat.le_succ n)] at h; cases h
    | some f0 =>
      rw [raw_s e] at h
      cases ep : pntS ms X Y (sl n) blk f0 n with
      | none => rw [ep] at h; cases h
      | some v =>
        rw [ep] at h
        have h' := Option.some.inj h
        rw [← h']
        show bnV B (if k = n then v else f0 k)
        by_cases q : k = n
        · rw [if_pos q]
          cases es : sl n with
          | some r =>
            rw [es] at ep
            have := evXY_b (v := v) ep
            unfold bnV at this ⊢
            omega
          | none =>
            rw [es] at ep
            cases eb : blk with
            | none => rw [eb] at ep; cases ep
            | some gg =>
              rw [eb] at ep
              have ep' : (if n < gg.1 then some (gg.2 n) else none) = some v := ep
              by_cases q2 : n < gg.1
              · rw [if_pos q2] at ep'
                rw [← Option.some.inj ep']
                exact hblk gg.1 gg.2 eb n q2
              · rw [if_neg q2] at ep'; cases ep'
        · rw [if_neg q]
          exact ih f0 e k (by omega)
theorem drw_b (hpt : ∀ q, q < np → pts q ≤ 10) (hpar : ∀ q, q < np → ∀ b, par q = some b → b < q) (hfin : ∀ (B : Int) p k v, p < np → k < 10 → 0 ≤ B → B ≤ 1050000 → bnV B v → bnV (B + 1500) (fin p k v)) : ∀ F q gg, F ≤ 16 → q < np → drwS ms X Y sel pts par fin F q = some gg → ∀ k, k < pts q → bnV (1000000 + 1500 * F) (gg k) := by
  intro F
  induction F with
  | zero => intro q gg _ _ h; cases h
  | succ F ih =>
    intro q gg hF hq h k hk
    have hp := hpt q hq
    unfold drwS at h
    have main : ∀ blk : Option (Nat × (Nat → Int32 × Int32)), (∀ n g2, blk = some (n, g2) → ∀ k, k < n → bnV (1000000 + 1500 * F) (g2 k)) → (match rawS ms X Y (sel q) blk (pts q) with | none => none | some f => some (fun k => fin q k (f k))) = some gg → bnV (1000000 + 1500 * (F + 1 : Nat)) (gg k) := by
      intro blk hb hm
      cases er : rawS ms X Y (sel q) blk (pts q) with
      | none => rw [er] at hm; cases hm
      | some f =>
        rw [er] at hm
        have hm' := Option.some.inj hm
        rw [← hm']
        have r1 := raw_b (ms := ms) (X := X) (Y := Y) (B := 1000000 + 1500 * F) (by omega) hb (pts q) f er k hk
        have r2 := hfin (1000000 + 1500 * F) q k (f k) hq (by omega) (by omega) (by omega) r1
        have e : (1000000 : Int) + 1500 * (F + 1 : Nat) = 1000000 + 1500 * F + 1500 := by omega
        rw [e]
        exact r2
    cases ep : par q with
    | none => rw [ep] at h; exact main none (fun n g2 z => nomatch z) h
    | some b =>
      rw [ep] at h
      dsimp only at h
      have hb := hpar q hq b ep
      cases ed : drwS ms X Y sel pts par fin F b with
      | none => rw [ed] at h; exact main none (fun n g2 z => nomatch z) h
      | some g2 =>
        rw [ed] at h
        refine main (some (pts b, g2)) (fun n g3 z k hk => ?_) h
        have z' := Prod.mk.inj (Option.some.inj z)
        rw [← z'.2]
        rw [← z'.1] at hk
        exact ih b g2 (by omega) (by omega) ed k hk
theorem fin_b {mv : Nat → Nat → Int32 × Int32} {s : Nat} (hW : WdB I np A) (hs : s < 11) (hmv : ∀ p k, bnV 999 (mv p k)) : ∀ (B : Int) p k v, p < np → k < 10 → 0 ≤ B → B ≤ 1050000 → bnV B v → bnV (B + 1500) (finS (fun p k => I 70 (10 * p + k)) (fun p k => I 71 (10 * p + k)) mv (nI s) p k v) := by
  intro B p k v hp hk hB0 hB1 hv
  obtain ⟨w1, w2, _, _⟩ := hW.1 p k hp hk
  have m := hmv p k
  have e5 : (5 : Int32).toInt = 5 := rfl
  have es : (nI s - 5).toInt = (s : Int) - 5 := by rw [q_sub (by rw [q_nI (by omega), e5]; omega) (by rw [q_nI (by omega), e5]; omega), q_nI (by omega), e5]
  have pb : ∀ x : Int32, (-99 ≤ x.toInt ∧ x.toInt ≤ 99) → (x * (nI s - 5)).toInt = x.toInt * ((s : Int) - 5) ∧ (-495 ≤ x.toInt * ((s : Int) - 5) ∧ x.toInt * ((s : Int) - 5) ≤ 495) := by
    intro x hx
    have bb : -495 ≤ x.toInt * ((s : Int) - 5) ∧ x.toInt * ((s : Int) - 5) ≤ 495 := by
      have hs' : s = 0 ∨ s = 1 ∨ s = 2 ∨ s = 3 ∨ s = 4 ∨ s = 5 ∨ s = 6 ∨ s = 7 ∨ s = 8 ∨ s = 9 ∨ s = 10 := by omega
      rcases hs' with e | e | e | e | e | e | e | e | e | e | e <;> subst e <;> simp <;> omega
    exact ⟨by rw [q_mul (by rw [es]; omega) (by rw [es]; omega), es], bb⟩
  obtain ⟨a1, a2⟩ := pb _ w1
  obtain ⟨b1, b2⟩ := pb _ w2
  unfold bnV at hv m
  unfold finS bnV
  dsimp only
  have s1 : (v.1 + I 70 (10 * p + k) * (nI s - 5)).toInt = v.1.toInt + (I 70 (10 * p + k)).toInt * ((s : Int) - 5) := by rw [q_add (by rw [a1]; omega) (by rw [a1]; omega), a1]
  have s2 : (v.2 + I 71 (10 * p + k) * (nI s - 5)).toInt = v.2.toInt + (I 71 (10 * p + k)).toInt * ((s : Int) - 5) := by rw [q_add (by rw [b1]; omega) (by rw [b1]; omega), b1]
  have u1 : (v.1 + I 70 (10 * p + k) * (nI s - 5) + (mv p k).1).toInt = v.1.toInt + (I 70 (10 * p + k)).toInt * ((s : Int) - 5) + (mv p k).1.toInt := by rw [q_add (by rw [s1]; omega) (by rw [s1]; omega), s1]
  have u2 : (v.2 + I 71 (10 * p + k) * (nI s - 5) + (mv p k).2).toInt = v.2.toInt + (I 71 (10 * p + k)).toInt * ((s : Int) - 5) + (mv p k).2.toInt := by rw [q_add (by rw [s2]; omega) (by rw [s2]; omega), s2]
  rw [u1, u2]
  omega
theorem mvA_b {b : Nat} (hW : WdB I np A) : ∀ p k, bnV 999 (mvA A b p k) := by
  intro p k
  unfold mvA
  cases e : A (nI b) (nI p * 10 + nI k) with
  | none => show bnV 999 (0, 0); unfold bnV; decide
  | some v => exact hW.2 _ _ v e
theorem DAt_b {s p : Nat} {K : z_K} {pid rid ln cx cy bid m : Nat → Nat} (hW : Wd K I np nr nb na t pid pts rid rp rk ln cx cy bid m par X Y A) (hB : WdB I np A) (hp : p < np) (hs : s < 11) (hg : DAt I X Y rp rk nr t pts par np s dy p = some g) : bnP g (pts p) := by
  have hnp := hW.2.2.2.1.n
  have hN := hW.2.2.2.2.1
  have hBl := hW.2.2.2.2.2.1
  have h := drw_b (np := np) (fun q hq => (hN.2.2 q hq).2.2.2) (fun q hq b e => ((hBl q hq).2.2.2 b e).1) (fin_b (mv := fun _ _ => (0, 0)) hB hs (fun _ _ => by unfold bnV; decide)) np p g hnp hp hg
  intro k hk
  have := h k hk
  unfold bnV at this
  omega
theorem DFo_b {b p : Nat} {K : z_K} {pid rid ln cx cy bid m : Nat → Nat} (hW : Wd K I np nr nb na t pid pts rid rp rk ln cx cy bid m par X Y A) (hB : WdB I np A) (hp : p < np) (hb : b < nb) (hg : DFo I X Y rp rk nr t pts par A np b p = some g) : bnP g (pts p) := by
  have hnp := hW.2.2.2.1.n
  have hN := hW.2.2.2.2.1
  have hBl := hW.2.2.2.2.2.1
  obtain ⟨_, ⟨j, hj, ej⟩, _⟩ := hW.2.2.2.2.2.2.2.2.2.2.2.2.2.2.2.2 b hb
  unfold DFo at hg
  rw [ej] at hg
  have h := drw_b (np := np) (fun q hq => (hN.2.2 q hq).2.2.2) (fun q hq b e => ((hBl q hq).2.2.2 b e).1) (fin_b (mv := mvA A b) hB hj (mvA_b hB)) np p g hnp hp hg
  intro k hk
  have := h k hk
  unfold bnV at this
  omega
end BND
