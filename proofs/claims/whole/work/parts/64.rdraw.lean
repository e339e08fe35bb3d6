/-! the reference draws one piece -/
def drR (a j : Nat) : Prop := rtS a j ∨ (a = 59 ∧ (j = 28 ∨ j = 29 ∨ j = 30 ∨ j = 32 ∨ j = 56)) ∨ (82 ≤ a ∧ a ≤ 84) ∨ (92 ≤ a ∧ a ≤ 94)
def rdr (a j : Nat) : Prop := rtS a j ∨ (a = 59 ∧ (j = 28 ∨ j = 29 ∨ j = 30 ∨ j = 32))
/-- the moves of the rows before j for a key -/
def fmA (I : z_I) (b key : Int32) : Nat → Int32 × Int32
  | 0 => (0, 0)
  | j + 1 => if I 88 j = key ∧ I 89 j = b then ((fmA I b key j).1 + I 90 j, (fmA I b key j).2 + I 91 j) else fmA I b key j
section RDR
variable {n0 d : Nat} {K : z_K} {I I1 : z_I} {L : z_L} {Q : z_q} {np nr nb na t : Nat} {pid pts rid rp rk ln cx cy bid m : Nat → Nat} {par : Nat → Option Nat} {X Y : Nat → List Int32} {A : Int32 → Int32 → Option (Int32 × Int32)} {p k r : Nat} {ms ru rx ry : Nat → Int32} {f g : Nat → Int32 × Int32} {gx gy : Nat → Nat → Int32} {mv : Nat → Nat → Int32 × Int32} {sz dy : Int32} {sel : Nat → Option Nat} {blk : Option (Nat × (Nat → Int32 × Int32))} {s s' : Bool × List Int64 × Int32 × Int32}
theorem g59 {j : Nat} (h : (28 ≤ j ∧ j ≤ 34) ∨ j = 38 ∨ j = 39 ∨ j = 41 ∨ (43 ≤ j ∧ j ≤ 47) ∨ j = 56 ∨ j = 61 ∨ j = 75 ∨ j = 76 ∨ j = 84 ∨ j = 85 ∨ j = 88) : gS K 59 j := Or.inr (Or.inr (Or.inr (Or.inr (Or.inr (Or.inl ⟨rfl, h⟩)))))
theorem g86 {j : Nat} : gS K 86 j := Or.inr (Or.inr (Or.inr (Or.inr (Or.inr (Or.inr (Or.inr (Or.inl rfl)))))))
theorem g82 {a j : Nat} (h : 82 ≤ a ∧ a ≤ 84) : gS K a j := Or.inr (Or.inr (Or.inr (Or.inr (Or.inr (Or.inr (Or.inl h))))))
theorem g92 {a j : Nat} (h : 92 ≤ a ∧ a ≤ 97) : gS K a j := Or.inr (Or.inr (Or.inr (Or.inr (Or.inr (Or.inr (Or.inr (Or.inr (Or.inr (Or.inl h)))))))))
theorem rr_g {a j : Nat} (h : rrS a j) : gS K a j := by
  rcases h with ⟨e, h⟩ | e
  · subst e; exact g59 (by omega)
  · subst e; exact g86
theorem rt_g {a j : Nat} (h : rtS a j) : gS K a j := by
  rcases h with h | ⟨e, h⟩
  · exact rr_g h
  · subst e; exact g59 (by omega)
theorem rdr_g {a j : Nat} (h : rdr a j) : gS K a j := by
  rcases h with h | ⟨e, h⟩
  · exact rt_g h
  · subst e; exact g59 (by omega)
theorem drR_g {a j : Nat} (h : drR a j) : gS K a j := by
  rcases h with h | ⟨e, h⟩ | h | h
  · exact rt_g h
  · subst e; exact g59 (by omega)
  · exact g82 h
  · exact g92 (by omega)
theorem rdr_d {a j : Nat} (h : rdr a j) : drR a j := by
  rcases h with h | ⟨e, h⟩
  · exact Or.inl h
  · exact Or.inr (Or.inl ⟨e, by omega⟩)
theorem evP_nm {v : Int64} (h1 : s.1 = s'.1) (h2 : s.2.1 = s'.2.1) : (evP v s).1 = (evP v s').1 ∧ (evP v s).2.1 = (evP v s').2.1 := by
  unfold evP
  rw [h1, h2]; exact ⟨rfl, rfl⟩
theorem evC_nm {u : Int32} (h1 : s.1 = s'.1) (h2 : s.2.1 = s'.2.1) : (evC ms rx ry s u).1 = (evC ms rx ry s' u).1 ∧ (evC ms rx ry s u).2.1 = (evC ms rx ry s' u).2.1 := by
  obtain ⟨b, V, w⟩ := s
  obtain ⟨b', V', w'⟩ := s'
  have h1' : b = b' := h1
  have h2' : V = V' := h2
  subst h1' h2'
  unfold evC
  split
  · exact evP_nm rfl rfl
  · split
    · exact evP_nm rfl rfl
    · split
      · exact evP_nm rfl rfl
      · split
        · exact evP_nm rfl rfl
        · split
          · match V with
            | [] => exact ⟨rfl, rfl⟩
            | x :: W =>
              show (if x < 0 then (true, 0 :: W, w) else (b, rtL x :: W, w)).1 = (if x < 0 then (true, 0 :: W, w') else (b, rtL x :: W, w')).1 ∧ (if x < 0 then (true, 0 :: W, w) else (b, rtL x :: W, w)).2.1 = (if x < 0 then (true, 0 :: W, w') else (b, rtL x :: W, w')).2.1
              by_cases g : x < 0
              · rw [if_pos g, if_pos g]; exact ⟨rfl, rfl⟩
              · rw [if_neg g, if_neg g]; exact ⟨rfl, rfl⟩
          · match V with
            | [] => exact ⟨rfl, rfl⟩
            | [x] => exact ⟨rfl, rfl⟩
            | x :: y :: W =>
              show (if u = 10033 ∧ x = 0 then evP (aop u y 1) (true, W, w) else evP (aop u y x) (b, W, w)).1 = (if u = 10033 ∧ x = 0 then evP (aop u y 1) (true, W, w') else evP (aop u y x) (b, W, w')).1 ∧ (if u = 10033 ∧ x = 0 then evP (aop u y 1) (true, W, w) else evP (aop u y x) (b, W, w)).2.1 = (if u = 10033 ∧ x = 0 then evP (aop u y 1) (true, W, w') else evP (aop u y x) (b, W, w')).2.1
              by_cases g : u = 10033 ∧ x = 0
              · rw [if_pos g, if_pos g]; exact evP_nm rfl rfl
              · rw [if_neg g, if_neg g]; exact evP_nm rfl rfl
theorem evs_nm : ∀ (c : List Int32) (s s' : Bool × List Int64 × Int32 × Int32), s.1 = s'.1 → s.2.1 = s'.2.1 → (evs ms rx ry s c).1 = (evs ms rx ry s' c).1 ∧ (evs ms rx ry s c).2.1 = (evs ms rx ry s' c).2.1 := by
  intro c
  induction c with
  | nil => intro s s' h1 h2; exact ⟨h1, h2⟩
  | cons u c ih =>
    intro s s' h1 h2
    obtain ⟨a, b⟩ := evC_nm (ms := ms) (rx := rx) (ry := ry) (u := u) h1 h2
    exact ih _ _ a b
/-- a rule read on the reference's side -/
theorem c13_readRule (hW : Wd K I np nr nb na t pid pts rid rp rk ln cx cy bid m par X Y A) (hr : r < nr) (hk : rk r = k) (hk10 : k < 10) (hm : ∀ q, q < 8 → I 84 q = ms q) (hf : ∀ q, q < k → I 82 q = (f q).1 ∧ I 83 q = (f q).2)
    (h0 : evXY ms (X r) (Y r) f = none → ∀ I' L', Fz rdr I I' → ¬ I' 59 34 = 0 → Q none I' L') (h1 : ∀ v, evXY ms (X r) (Y r) f = some v → ∀ I' L', Fz rdr I I' → I' 59 34 = 0 → I' 59 46 = v.1 → I' 59 47 = v.2 → Q none I' L') : RM0 n0 xX13_readRule (d + 8) [.ref (n0 + 59), .int (nI r)] K I L Q := by
  have hM := hW.2.1
  have hR := hW.2.2.2.2.2.2.1
  have h120 := hR.1
  obtain ⟨a1, a2, a3, a4, a5, _⟩ := hW.2.2.2.2.2.2.2.1 r hr
  obtain ⟨r1, r2, r3, r4, r5, r6, r7, r8, r9⟩ := hR.2.2.2.1 r hr
  rw [hk] at a4 r4
  have hwf := pT_wf (by omega) a4
  refine wp_X13_readRule hM ⟨q_inn (by omega) (by omega), ?_⟩
  rw [q_cl (by omega), a2, r4, show (60 : Int32) = nI 60 from rfl, q_nmul]
  have e84 : zI (zI (zI (zI I 59 28 1) 59 29 (nI (60 * r))) 59 30 (nI (ln r))) 59 32 (nI k) 84 = I 84 := by rw [zI_r (by omega), zI_r (by omega), zI_r (by omega), zI_r (by omega)]
  have e82 : zI (zI (zI (zI I 59 28 1) 59 29 (nI (60 * r))) 59 30 (nI (ln r))) 59 32 (nI k) 82 = I 82 := by rw [zI_r (by omega), zI_r (by omega), zI_r (by omega), zI_r (by omega)]
  have e83 : zI (zI (zI (zI I 59 28 1) 59 29 (nI (60 * r))) 59 30 (nI (ln r))) 59 32 (nI k) 83 = I 83 := by rw [zI_r (by omega), zI_r (by omega), zI_r (by omega), zI_r (by omega)]
  have hT : TxR (zI (zI (zI (zI I 59 28 1) 59 29 (nI (60 * r))) 59 30 (nI (ln r))) 59 32 (nI k)) (fun q => I 77 (60 * r + q)) (ln r) (nI k) (I 84) (I 82) (I 83) := by
    refine ⟨?_, a1, ?_, by rw [q_nI (by omega)]; omega, e84, e82, e83, Or.inr ⟨?_, r, by omega, ?_, fun q hq => ?_⟩⟩
    · (repeat (first | rw [zI_s] | rw [zI_d (by omega)]))
    · (repeat (first | rw [zI_s] | rw [zI_d (by omega)]))
    · (repeat (first | rw [zI_s] | rw [zI_d (by omega)])); decide
    · (repeat (first | rw [zI_s] | rw [zI_d (by omega)]))
    · (repeat (first | rw [zI_s] | rw [zI_d (by omega)]))
  have z0 : Fz rdr I (zI (zI (zI (zI I 59 28 1) 59 29 (nI (60 * r))) 59 30 (nI (ln r))) 59 32 (nI k)) := (((Fz.rfl'.z (Or.inr ⟨rfl, by omega⟩)).z (Or.inr ⟨rfl, by omega⟩)).z (Or.inr ⟨rfl, by omega⟩)).z (Or.inr ⟨rfl, by omega⟩)
  have ex : evs (I 84) (I 82) (I 83) (false, [], 0, 0) (X r) = evs ms (fun q => (f q).1) (fun q => (f q).2) (false, [], 0, 0) (X r) := evs_cg (show k ≤ 10 by omega) hm (fun q hq => (hf q hq).1) (fun q hq => (hf q hq).2) _ 0 1 _ hwf.1
  have ey : ∀ s, evs (I 84) (I 82) (I 83) s (Y r) = evs ms (fun q => (f q).1) (fun q => (f q).2) s (Y r) := fun s => evs_cg (show k ≤ 10 by omega) hm (fun q hq => (hf q hq).1) (fun q hq => (hf q hq).2) _ 0 1 _ hwf.2
  refine c13_readText hM hT a3 a4 (fun e he => nomatch he) (fun x y he I2 L2 f2 l2 a33 a46 a47 a34 a38 a39 => ⟨rfl, ?_⟩)
  have exy := Prod.mk.inj (Sum.inr.inj he)
  rw [← exy.1] at a46
  rw [← exy.1, ← exy.2] at a47 a34
  rw [ex] at a46
  rw [ex, ey] at a47 a34
  have zz : Fz rdr I I2 := z0.trans (f2.mono (fun a j z => Or.inl z))
  have ev : evXY ms (X r) (Y r) f = if (evs ms (fun k => (f k).1) (fun k => (f k).2) (false, [], 0, 0) (X r)).1 = true ∨ (evs ms (fun k => (f k).1) (fun k => (f k).2) (false, [], 0, 0) (Y r)).1 = true then none else some ((topV (evs ms (fun k => (f k).1) (fun k => (f k).2) (false, [], 0, 0) (X r))).toInt32, (topV (evs ms (fun k => (f k).1) (fun k => (f k).2) (false, [], 0, 0) (Y r))).toInt32) := rfl
  generalize evs ms (fun k => (f k).1) (fun k => (f k).2) (false, [], 0, 0) (X r) = sx at ev a46 a47 a34
  by_cases gx : sx.1 = true
  · rw [if_pos (Or.inl gx)] at ev
    refine h0 ev I2 L2 zz ?_
    rw [a34, bI_t (evs_br (Y r) (sx.1, [], sx.2.2) gx)]; decide
  · have gx' : sx.1 = false := by cases q : sx.1 with | true => exact absurd q gx | false => rfl
    obtain ⟨n1, n2⟩ := evs_nm (ms := ms) (rx := fun k => (f k).1) (ry := fun k => (f k).2) (Y r) (sx.1, [], sx.2.2) (false, [], 0, 0) gx' rfl
    have nt : topV (evs ms (fun k => (f k).1) (fun k => (f k).2) (sx.1, [], sx.2.2) (Y r)) = topV (evs ms (fun k => (f k).1) (fun k => (f k).2) (false, [], 0, 0) (Y r)) := by unfold topV; rw [n2]
    rw [nt] at a47
    rw [n1] at a34
    by_cases gy : (evs ms (fun k => (f k).1) (fun k => (f k).2) (false, [], 0, 0) (Y r)).1 = true
    · rw [if_pos (Or.inr gy)] at ev
      refine h0 ev I2 L2 zz ?_
      rw [a34, bI_t gy]; decide
    · rw [if_neg (fun z => z.elim gx gy)] at ev
      exact h1 _ ev I2 L2 zz (by rw [a34, bI_f gy]) a46 a47
theorem fm_tb {b : Nat} (hA : AltI I nb na bid m A) : fmA I (nI b) (10 * nI p + nI k) na = mvA A b p k := by
  have hT := hA.2.2.2.1
  have kc : (nI p * 10 + nI k : Int32) = 10 * nI p + nI k := by rw [Int32.mul_comm]
  have key : ∀ j, j ≤ na → (∃ r, r < j ∧ (I 89 r, I 88 r) = (nI b, 10 * nI p + nI k) ∧ fmA I (nI b) (10 * nI p + nI k) j = (I 90 r, I 91 r)) ∨ ((∀ r, r < j → (I 89 r, I 88 r) ≠ (nI b, 10 * nI p + nI k)) ∧ fmA I (nI b) (10 * nI p + nI k) j = (0, 0)) := by
    intro j
    induction j with
    | zero => intro _; exact Or.inr ⟨fun r hr => absurd hr (by omega), rfl⟩
    | succ j ih =>
      intro hj
      have st : fmA I (nI b) (10 * nI p + nI k) (j + 1) = if I 88 j = 10 * nI p + nI k ∧ I 89 j = nI b then ((fmA I (nI b) (10 * nI p + nI k) j).1 + I 90 j, (fmA I (nI b) (10 * nI p + nI k) j).2 + I 91 j) else fmA I (nI b) (10 * nI p + nI k) j := rfl
      rw [st]
      by_cases g : I 88 j = 10 * nI p + nI k ∧ I 89 j = nI b
      · rw [if_pos g]
        have gj : (I 89 j, I 88 j) = (nI b, 10 * nI p + nI k) := by rw [g.1, g.2]
        rcases ih (by omega) with ⟨r, hr, e, _⟩ | ⟨_, e⟩
        · have := hT.2.2 r j (by omega) (by omega) (e.trans gj.symm)
          omega
        · refine Or.inl ⟨j, by omega, gj, ?_⟩
          rw [e, Int32.zero_add, Int32.zero_add]
      · rw [if_neg g]
        rcases ih (by omega) with ⟨r, hr, e, e2⟩ | ⟨e, e2⟩
        · exact Or.inl ⟨r, by omega, e, e2⟩
        · refine Or.inr ⟨fun r hr z => ?_, e2⟩
          by_cases q : r = j
          · subst q
            have := Prod.mk.inj z
            exact g ⟨this.2, this.1⟩
          · exact e r (by omega) z
  unfold mvA
  rw [kc]
  rcases key na (Nat.le_refl _) with ⟨r, hr, e, e2⟩ | ⟨e, e2⟩
  · have this0 : A (I 89 r, I 88 r).1 (I 89 r, I 88 r).2 = some (I 90 r, I 91 r) := hT.1 r hr
    rw [e] at this0
    have this' : A (nI b) (10 * nI p + nI k) = some (I 90 r, I 91 r) := this0
    rw [this', e2]; rfl
  · have : A (nI b) (10 * nI p + nI k) = none := hT.nk (k := (nI b, 10 * nI p + nI k)) e
    rw [this, e2]; rfl
end RDR
