def d82 (a j : Nat) : Prop := rdr a j ∨ a = 82 ∨ a = 83
def d92 (a _j : Nat) : Prop := a = 92 ∨ a = 93
/-- the block as the reference has drawn it -/
def BkR (I : z_I) (bg : Int32) (blk : Option (Nat × (Nat → Int32 × Int32))) : Prop := (bg = 0 ∧ blk = none) ∨ (bg = 1 ∧ ∃ n g, blk = some (n, g) ∧ n ≤ 10 ∧ I 59 56 = nI n ∧ ∀ k, k < n → I 92 k = (g k).1 ∧ I 93 k = (g k).2)
section RON
variable {n0 d : Nat} {K : z_K} {I I1 : z_I} {L : z_L} {Q : z_q} {np nr nb na t : Nat} {pid pts rid rp rk ln cx cy bid m : Nat → Nat} {par : Nat → Option Nat} {X Y : Nat → List Int32} {A : Int32 → Int32 → Option (Int32 × Int32)} {p k r : Nat} {ms ru : Nat → Int32} {f g : Nat → Int32 × Int32} {mv : Nat → Nat → Int32 × Int32} {sz dy bo bg : Int32} {blk : Option (Nat × (Nat → Int32 × Int32))}
theorem d82_g {a j : Nat} (h : d82 a j) : gS K a j := by
  rcases h with h | h | h
  · exact rdr_g h
  · subst h; exact g82 (by omega)
  · subst h; exact g82 (by omega)
theorem rdr_n {a j : Nat} (h1 : a ≠ 59) (h2 : a ≠ 86) : ¬ rdr a j := by
  rintro (((⟨e, _⟩ | e) | ⟨e, _⟩) | ⟨e, _⟩)
  · exact h1 e
  · exact h2 e
  · exact h1 e
  · exact h1 e
theorem rdr_56 : ¬ rdr 59 56 := by unfold rdr rtS rrS; omega
theorem d82_n {a j : Nat} (h1 : a ≠ 59) (h2 : a ≠ 86) (h3 : a ≠ 82) (h4 : a ≠ 83) : ¬ d82 a j := fun z => z.elim (rdr_n h1 h2) (fun z => z.elim h3 h4)
theorem d82_56 : ¬ d82 59 56 := fun z => z.elim rdr_56 (fun z => by omega)
theorem c13_on6 (hW : Wd K I np nr nb na t pid pts rid rp rk ln cx cy bid m par X Y A) (hm : ∀ q, q < 8 → I 84 q = ms q) (hru : I 81 = ru) (hp : p < np) (hb : BkR I bg blk) (hk3 : I 66 p ≠ 3 → blk = none)
    (hend : ∀ I' L', Fz d82 I I' → (rawS ms X Y (fun k => selR rp rk ru p k dy nr) blk (pts p) = none → Z n0 xX13_drawOne (d + 9) 0 0 168 [(0, .ref (n0 + 59)), (1, .int (nI p)), (2, .int sz), (4, .int bo), (6, .int 0), (7, .int 0)] [] K I' L' (z_q0 K Q)) ∧ (∀ g, rawS ms X Y (fun k => selR rp rk ru p k dy nr) blk (pts p) = some g → (∀ q, q < pts p → I' 82 q = (g q).1 ∧ I' 83 q = (g q).2) → Z n0 xX13_drawOne (d + 9) 0 0 168 [(0, .ref (n0 + 59)), (1, .int (nI p)), (2, .int sz), (4, .int bo), (6, .int 1), (7, .int 0)] [] K I' L' (z_q0 K Q))) :
    ∀ w k f I1 L1, k + w = pts p → rawS ms X Y (fun k => selR rp rk ru p k dy nr) blk k = some f → (∀ q, q < k → I1 82 q = (f q).1 ∧ I1 83 q = (f q).2) → Fz d82 I I1 → Z n0 xX13_drawOne (d + 9) 0 0 6 [(0, .ref (n0 + 59)), (1, .int (nI p)), (2, .int sz), (3, .int dy), (4, .int bo), (5, .int bg), (6, .int 1), (7, .int (nI k))] [] K I1 L1 (z_q0 K Q) := by
  have hP := hW.2.2.2.1
  have hN := hW.2.2.2.2.1
  have hM := hW.2.1
  have hnp := hP.n
  have hpt := (hN.2.2 p hp).2.2.2
  have e67 : ∀ {I1}, Fz d82 I I1 → I1 67 p = nI (pts p) := fun hI => by rw [hI 67 p (d82_n (by omega) (by omega) (by omega) (by omega))]; exact (hN.2.2 p hp).2.1
  have stop : ∀ I1 L1 k, Fz d82 I I1 → k ≤ pts p → rawS ms X Y (fun k => selR rp rk ru p k dy nr) blk k = none → Z n0 xX13_drawOne (d + 9) 0 0 6 [(0, .ref (n0 + 59)), (1, .int (nI p)), (2, .int sz), (3, .int dy), (4, .int bo), (5, .int bg), (6, .int 0), (7, .int (nI k))] [] K I1 L1 (z_q0 K Q) := by
    intro I1 L1 k hI hk hn
    have fin := (hend I1 L1 hI).1 (raw_no hn hk)
    refine wp_X13_drawOne_6 hM ⟨q_inn (by omega) (by omega), ?_⟩
    rw [q_cl (by omega), e67 hI]
    by_cases g : nI k < nI (pts p)
    · exact ip g (ip rfl fin)
    · exact iq g fin
  intro w
  induction w with
  | zero =>
    intro k f I1 L1 hk hr hf hI
    have hk' : k = pts p := by omega
    subst hk'
    refine wp_X13_drawOne_6 hM ⟨q_inn (by omega) (by omega), ?_⟩
    rw [q_cl (by omega), e67 hI]
    exact iq (fun z => by have := q_lt.mp z; omega) ((hend I1 L1 hI).2 f hr hf)
  | succ w ih =>
    intro k f I1 L1 hk hr hf hI
    have hW1 := hW.fr KD.rf (hI.mono (fun a j z => d82_g z))
    have hR1 := hW1.2.2.2.2.2.2.1
    have rs := raw_s hr
    have n82 : ∀ a j, a ≠ 59 → a ≠ 86 → a ≠ 82 → a ≠ 83 → I1 a j = I a j := fun a j h1 h2 h3 h4 => hI a j (d82_n h1 h2 h3 h4)
    have e81 : I1 81 = ru := by rw [← hru]; funext q; exact n82 81 q (by omega) (by omega) (by omega) (by omega)
    refine wp_X13_drawOne_6 hM ⟨q_inn (by omega) (by omega), ?_⟩
    rw [q_cl (by omega), e67 hI]
    refine ip (nI_lt (by omega) (by omega)) (iq (by decide) (c13_ruleOn hM hR1 hnp hp (by omega) ⟨_, rfl, ?_⟩))
    rw [e81, q_cl (n := k) (by omega), ← nI_succ]
    cases es : selR rp rk ru p k dy nr with
    | none =>
      rw [es] at rs
      refine ip (by show (-1 : Int32) < 0; decide) ⟨fun _ => q_inn (by omega) (by omega), q_inn (by omega) (by omega), ?_⟩
      have e56 : I1 59 56 = I 59 56 := hI 59 56 d82_56
      have e66 : I1 66 p = I 66 p := n82 66 p (by omega) (by omega) (by omega) (by omega)
      have e92 : I1 92 k = I 92 k := n82 92 k (by omega) (by omega) (by omega) (by omega)
      have e93 : I1 93 k = I 93 k := n82 93 k (by omega) (by omega) (by omega) (by omega)
      rw [e56, e66, e92, e93]
      have nxt : ∀ v : Int32 × Int32, Fz d82 I (zI (zI I1 82 k v.1) 83 k v.2) := fun v => (hI.z (Or.inr (Or.inl rfl))).z (Or.inr (Or.inr rfl))
      have bad : ∀ c : Int32, c = 0 → pntS ms X Y none blk f k = none → Z n0 xX13_drawOne (d + 9) 0 0 6 [(0, .ref (n0 + 59)), (1, .int (nI p)), (2, .int sz), (3, .int dy), (4, .int bo), (5, .int bg), (6, .int c), (7, .int (nI (k + 1)))] [] K (zI (zI I1 82 k (if c = 0 then 0 else I 92 k)) 83 k (if c = 0 then 0 else I 93 k)) L1 (z_q0 K Q) := by
        intro c hc hpn
        subst hc
        rw [if_pos rfl, if_pos rfl]
        rw [hpn] at rs
        exact stop _ _ _ (nxt (0, 0)) (by omega) rs
      rcases hb with ⟨b1, b2⟩ | ⟨b1, n, gg, b2, b3, b4, b5⟩
      · refine bad _ ?_ (by rw [b2]; rfl)
        by_cases g3 : I 66 p = 3
        · rw [if_pos g3, if_pos b1]
        · rw [if_neg g3]
      · have g3 : I 66 p = 3 := Classical.byContradiction (fun z => by have := hk3 z; rw [b2] at this; cases this)
        rw [if_pos g3, if_neg (by rw [b1]; decide), b4]
        by_cases gk : k < n
        · have hv : pntS ms X Y none blk f k = some (gg k) := by
            rw [b2]
            show (if k < n then some (gg k) else none) = _
            rw [if_pos gk]
          rw [if_pos (nI_lt gk (by omega)), if_neg (by decide), if_neg (by decide), (b5 k gk).1, (b5 k gk).2]
          rw [hv] at rs
          refine ih (k + 1) _ _ _ (by omega) rs (fun q hq => ?_) (nxt (gg k))
          by_cases e : q = k
          · subst e
            rw [if_pos rfl, zI_d (by omega), zI_s, zI_s]; exact ⟨rfl, rfl⟩
          · rw [if_neg e, zI_d (by omega), zI_d (by omega), zI_d (by omega), zI_d (by omega)]; exact hf q (by omega)
        · rw [if_neg (fun z => gk (by have := q_lt.mp z; rw [q_nI (by omega), q_nI (by omega)] at this; omega))]
          refine bad 0 rfl ?_
          rw [b2]
          show (if k < n then some (gg k) else none) = _
          rw [if_neg gk]
    | some r =>
      rw [es] at rs
      obtain ⟨s1, s2, s3, s4⟩ := selR_s es
      have h120 := hR1.1
      refine iq (nI_pos (by show r < _; omega)) (c13_readRule (ms := ms) (f := f) hW1 s1 s3 (by omega) (fun q hq => by rw [n82 84 q (by omega) (by omega) (by omega) (by omega)]; exact hm q hq) hf (fun e I2 L2 f2 a34 => ⟨rfl, q_inn (by omega) (by omega), ?_⟩) (fun v e I2 L2 f2 a34 a46 a47 => ⟨rfl, q_inn (by omega) (by omega), ?_⟩))
      · have e' : pntS ms X Y (some r) blk f k = none := e
        rw [e'] at rs
        rw [if_neg a34]
        exact stop _ _ _ (((hI.trans (f2.mono (fun a j z => Or.inl z))).z (Or.inr (Or.inl rfl))).z (Or.inr (Or.inr rfl))) (by omega) rs
      · have e' : pntS ms X Y (some r) blk f k = some v := e
        rw [e'] at rs
        rw [if_pos a34, a46, a47]
        refine ih (k + 1) _ _ _ (by omega) rs (fun q hq => ?_) (((hI.trans (f2.mono (fun a j z => Or.inl z))).z (Or.inr (Or.inl rfl))).z (Or.inr (Or.inr rfl)))
        by_cases eq : q = k
        · subst eq
          rw [if_pos rfl, zI_d (by omega), zI_s, zI_s]; exact ⟨rfl, rfl⟩
        · rw [if_neg eq, zI_d (by omega), zI_d (by omega), zI_d (by omega), zI_d (by omega), f2 82 q (rdr_n (by omega) (by omega)), f2 83 q (rdr_n (by omega) (by omega))]; exact hf q (by omega)
theorem q_j10 {a b : Nat} : 10 * nI a + nI b = nI (10 * a + b) := by
  rw [show (10 : Int32) = nI 10 from rfl, q_nmul, q_nadd]
/-- the moves of one point -/
theorem c13_on249 {b : Nat} (hW : Wd K I np nr nb na t pid pts rid rp rk ln cx cy bid m par X Y A) (hp : p < np) (hk : k < 10) (hb : b < nb) {B : Int32 × Int32} (hB : I 92 k = B.1 ∧ I 93 k = B.2)
    (h : ∀ I' L', Fz d92 I I' → (∀ q, q ≠ k → I' 92 q = I 92 q ∧ I' 93 q = I 93 q) → I' 92 k = B.1 + (mvA A b p k).1 → I' 93 k = B.2 + (mvA A b p k).2 → Z n0 xX13_drawOne (d + 9) 0 0 168 [(0, .ref (n0 + 59)), (1, .int (nI p)), (2, .int sz), (4, .int (nI b)), (6, .int 1), (7, .int (nI (k + 1)))] [] K I' L' (z_q0 K Q)) :
    ∀ w j I1 L1, j + w = na → Fz d92 I I1 → (∀ q, q ≠ k → I1 92 q = I 92 q ∧ I1 93 q = I 93 q) → I1 92 k = B.1 + (fmA I (nI b) (10 * nI p + nI k) j).1 → I1 93 k = B.2 + (fmA I (nI b) (10 * nI p + nI k) j).2 → Z n0 xX13_drawOne (d + 9) 0 0 249 [(0, .ref (n0 + 59)), (1, .int (nI p)), (2, .int sz), (4, .int (nI b)), (6, .int 1), (7, .int (nI k)), (8, .int (nI j))] [] K I1 L1 (z_q0 K Q) := by
  have hM := hW.2.1
  have hA := hW.2.2.2.2.2.2.2.2.2.2.2.1
  have h40 := hA.2.2.1
  have nbb := hW.2.2.2.2.2.2.2.2.2.1.n
  intro w
  induction w with
  | zero =>
    intro j I1 L1 hj hI ho h1 h2
    have hj' : j = na := by omega
    subst hj'
    have e49 : I1 59 49 = nI j := by rw [hI 59 49 (by unfold d92; omega)]; exact hA.2.1
    rw [fm_tb hA] at h1 h2
    refine wp_X13_drawOne_249 hM ?_
    rw [e49, ← nI_succ]
    exact iq (fun z => by have := q_lt.mp z; omega) (h I1 L1 hI ho h1 h2)
  | succ w ih =>
    intro j I1 L1 hj hI ho h1 h2
    have e49 : I1 59 49 = nI na := by rw [hI 59 49 (by unfold d92; omega)]; exact hA.2.1
    have e8 : ∀ a, 88 ≤ a → a ≤ 91 → I1 a j = I a j := fun a h1 h2 => hI a j (by unfold d92; omega)
    refine wp_X13_drawOne_249 hM ?_
    rw [e49, q_cl (n := j) (by omega), q_cl (n := k) (by omega), e8 88 (by omega) (by omega), e8 89 (by omega) (by omega), e8 90 (by omega) (by omega), e8 91 (by omega) (by omega), h1, h2, ← nI_succ, ← nI_succ]
    refine ip (nI_lt (by omega) (by omega)) (iq (nI_pos (by omega)) ⟨q_inn (by omega) (by omega), q_inn (by omega) (by omega), ?_⟩)
    have st : fmA I (nI b) (10 * nI p + nI k) (j + 1) = if I 88 j = 10 * nI p + nI k ∧ I 89 j = nI b then ((fmA I (nI b) (10 * nI p + nI k) j).1 + I 90 j, (fmA I (nI b) (10 * nI p + nI k) j).2 + I 91 j) else fmA I (nI b) (10 * nI p + nI k) j := rfl
    have hin : ((if (I 88 j : Int32) = 10 * nI p + nI k then if (I 89 j : Int32) = nI b then 1 else 0 else 0) : Int32) = bI (I 88 j = 10 * nI p + nI k ∧ I 89 j = nI b) := by
      unfold bI
      by_cases a : I 88 j = 10 * nI p + nI k
      · rw [if_pos a]
        by_cases c : I 89 j = nI b
        · rw [if_pos c, if_pos ⟨a, c⟩]
        · rw [if_neg c, if_neg (fun z => c z.2)]
      · rw [if_neg a, if_neg (fun z => a z.1)]
    rw [hin]
    have f2 : ∀ x y : Int32, Fz d92 I (zI (zI I1 92 k x) 93 k y) := fun x y => (hI.z (Or.inl rfl)).z (Or.inr rfl)
    have o2 : ∀ (x y : Int32) q, q ≠ k → zI (zI I1 92 k x) 93 k y 92 q = I 92 q ∧ zI (zI I1 92 k x) 93 k y 93 q = I 93 q := fun x y q hq => by
      rw [zI_d (by omega), zI_d (by omega), zI_d (by omega), zI_d (by omega)]; exact ho q hq
    by_cases g : I 88 j = 10 * nI p + nI k ∧ I 89 j = nI b
    · rw [bI_t g, if_neg (by decide), if_neg (by decide)]
      rw [if_pos g] at st
      refine ih (j + 1) _ L1 (by omega) (f2 _ _) (o2 _ _) ?_ ?_
      · rw [zI_d (by omega), zI_s, st, Int32.add_assoc]
      · rw [zI_s, st, Int32.add_assoc]
    · rw [bI_f g, if_pos rfl, if_pos rfl, Int32.add_zero, Int32.add_zero]
      rw [if_neg g] at st
      refine ih (j + 1) _ L1 (by omega) (f2 _ _) (o2 _ _) ?_ ?_
      · rw [zI_d (by omega), zI_s, st]
      · rw [zI_s, st]
end RON
