/-! moveHome of the component -/
def shW (f : Nat → Nat → Bool) : Nat := (fcA f 24).2.2.2.1 + 1 - (fcA f 24).2.1
def shH (f : Nat → Nat → Bool) : Nat := (fcA f 24).2.2.2.2 + 1 - (fcA f 24).2.2.1
/-- the cells at home -/
def shB (f : Nat → Nat → Bool) (k q : Nat) : Bool := decide (k + (fcA f 24).2.1 < 24) && (decide (q + (fcA f 24).2.2.1 < 24) && f (k + (fcA f 24).2.1) (q + (fcA f 24).2.2.1))
section MHM
variable {n0 d o c : Nat} {K : z_K} {I : z_I} {L : z_L} {Q : z_q} {f : Nat → Nat → Bool}
theorem c6_bitCount {x : Int32} (h : Q (some (.int (nI (cntB (tb x) 32)))) I L) : RM0 n0 xJ6_bitCount_0f7a4 d [.int x] K I L Q := by
  have e := pc_r (x := x) rfl rfl rfl rfl rfl
  rw [pc_cnt] at e
  refine wp_J6_bitCount_0f7a4 ?_
  rw [e]
  exact h
theorem cnt_24 {x : Int32} {g : Nat → Bool} (h : ∀ q, q < 32 → tb x q = (decide (q < 24) && g q)) : cntB (tb x) 32 = cntB g 24 := by
  rw [cnt_c (g := fun q => decide (q < 24) && g q) 32 h, cnt_hi (n := 24) (fun q hq => by show (decide (q < 24) && g q) = false; rw [decide_eq_false (by omega), Bool.false_and]) 8]
  exact cnt_c 24 (fun q hq => by show (decide (q < 24) && g q) = g q; rw [decide_eq_true hq, Bool.true_and])
theorem c10_mh10 (ho : o < K.1) (hc : (K.2.1 o).1 = 10) (hr : K.2.2 o 0 = some c) (hcl : c < K.1) (hs : K.2.1 c = (20, 24)) (oc : c ≠ o) (ht : ∀ k, k < 24 → ∀ q, q < 32 → tb (I c k) q = (decide (q < 24) && f k q))
    (h : ∀ I' R, Fz (fun a j => a = o ∧ j = 4) I I' → I' o 4 = nI (fcA f 24).1 → (∀ q, q < 32 → (tb R q = true ↔ q < 24 ∧ ∃ b, b < 24 ∧ f b q = true)) → Z n0 xX10_moveHome (d + 1) 0 0 10 [(0, .ref (n0 + o)), (1, .int (nI (fcA f 24).2.1)), (2, .int (if (fcA f 24).1 = 0 then -1 else nI (fcA f 24).2.2.2.1)), (3, .int R), (4, .int (nI 24))] [] K I' L (z_q0 K Q)) :
    ∀ w i I1 R, i + w = 24 → Fz (fun a j => a = o ∧ j = 4) I I1 → I1 o 4 = nI (fcA f i).1 → (∀ q, q < 32 → (tb R q = true ↔ q < 24 ∧ ∃ b, b < i ∧ f b q = true)) → Z n0 xX10_moveHome (d + 1) 0 0 10 [(0, .ref (n0 + o)), (1, .int (nI (fcA f i).2.1)), (2, .int (if (fcA f i).1 = 0 then -1 else nI (fcA f i).2.2.2.1)), (3, .int R), (4, .int (nI i))] [] K I1 L (z_q0 K Q) := by
  intro w
  induction w with
  | zero => intro i I1 R hi f1 e4 hR; rw [show i = 24 by omega] at e4 hR ⊢; exact h I1 R f1 e4 hR
  | succ w ih =>
    intro i I1 R hi f1 e4 hR
    have ec : ∀ k, I1 c k = I c k := fun k => f1 c k (by omega)
    obtain ⟨b1, b2, b3, b4, b5⟩ := fcA_b (f := f) i (by omega)
    have hti := ht i (by omega)
    refine wp_X10_moveHome_10 (ip (nI_lt (b := 24) (by omega) (by omega)) ⟨ho, hc, c, hr, 24, hcl, hs, q_inn (by omega) (by omega), ?_⟩)
    rw [q_cl (by omega), ec, ← nI_succ]
    by_cases g : I c i = 0
    · refine ip g ?_
      have z : ∀ q, q < 24 → f i q = false := fun q hq => by
        have := hti q (by omega)
        rw [g, tb_0, decide_eq_true hq, Bool.true_and] at this
        exact this.symm
      have e : fcA f (i + 1) = fcA f i := fcC_z 24 z
      have st := ih (i + 1) I1 R (by omega) f1 (by rw [e]; exact e4) (fun q hq => by
        rw [hR q hq]
        constructor
        · rintro ⟨x1, b, x2, x3⟩; exact ⟨x1, b, by omega, x3⟩
        · rintro ⟨x1, b, x2, x3⟩
          refine ⟨x1, b, ?_, x3⟩
          by_cases y : b = i
          · subst y; rw [z q x1] at x3; exact absurd x3 (by decide)
          · omega)
      rw [e] at st
      exact st
    · refine iq g (c6_bitCount ⟨_, rfl, ?_⟩)
      have hx : ∃ q, q < 24 ∧ f i q = true := by
        refine Classical.byContradiction (fun n => g (tb_ext (fun q hq => ?_)))
        rw [tb_0, hti q hq]
        by_cases y : q < 24
        · rw [decide_eq_true y, Bool.true_and]
          cases e : f i q with
          | false => rfl
          | true => exact absurd ⟨q, y, e⟩ n
        · rw [decide_eq_false y, Bool.false_and]
      have hp : (fcA f (i + 1)).2.1 = (if i < (fcA f i).2.1 then i else (fcA f i).2.1) ∧ (fcA f (i + 1)).2.2.2.1 = i := fcC_p 24 hx
      have h1 : (fcA f (i + 1)).1 = (fcA f i).1 + cntB (f i) 24 := fcC_1 24
      have hn : cntB (f i) 24 ≠ 0 := fun z => by
        obtain ⟨q, hq, t⟩ := hx
        rw [(cnt_0 24).mp z q hq] at t
        exact absurd t (by decide)
      have st := ih (i + 1) (zI I1 o 4 (I1 o 4 + nI (cntB (tb (I c i)) 32))) (R ||| I c i) (by omega) (f1.z ⟨rfl, rfl⟩) (by rw [zI_s, e4, cnt_24 hti, q_nadd, h1]) (fun q hq => by
        rw [tb_or, Bool.or_eq_true, hR q hq, hti q hq]
        constructor
        · rintro (⟨x1, b, x2, x3⟩ | x)
          · exact ⟨x1, b, by omega, x3⟩
          · rw [Bool.and_eq_true, decide_eq_true_eq] at x
            exact ⟨x.1, i, by omega, x.2⟩
        · rintro ⟨x1, b, x2, x3⟩
          by_cases y : b = i
          · subst y; exact Or.inr (by rw [decide_eq_true x1, Bool.true_and]; exact x3)
          · exact Or.inl ⟨x1, b, by omega, x3⟩)
      rw [if_neg (show ¬ (fcA f (i + 1)).1 = 0 by omega), hp.1, hp.2] at st
      rw [n_if (by omega) (by omega)]
      exact st
theorem c10_mh91 {R : Int32} {a1 : Int32} (ho : o < K.1) (hc : (K.2.1 o).1 = 10)
    (h : ∀ k, k ≤ 24 → (∀ q, q < k → tb R q = false) → (k < 24 → tb R k = true) → Z n0 xX10_moveHome (d + 1) 0 0 122 [(0, .ref (n0 + o)), (1, .int a1), (3, .int R), (4, .int (nI k)), (5, .int (nI k))] [] K (zI I o 3 0) L (z_q0 K Q)) :
    ∀ w k, k + w = 24 → (∀ q, q < k → tb R q = false) → Z n0 xX10_moveHome (d + 1) 0 0 91 [(0, .ref (n0 + o)), (1, .int a1), (3, .int R), (4, .int (nI k))] [] K I L (z_q0 K Q) := by
  intro w
  induction w with
  | zero =>
    intro k hk z
    have : k = 24 := by omega
    subst this
    exact wp_X10_moveHome_91 (iq (by decide) ⟨ho, hc, h 24 (by omega) z (fun y => by omega)⟩)
  | succ w ih =>
    intro k hk z
    refine wp_X10_moveHome_91 (ip (nI_lt (b := 24) (by omega) (by omega)) ?_)
    rw [tb_shr (by omega)]
    by_cases g : tb R k = true
    · exact iq (fun y => bI_0.mp y g) ⟨ho, hc, h k (by omega) z (fun _ => g)⟩
    · refine ip (bI_0.mpr g) ?_
      rw [← nI_succ]
      refine ih (k + 1) (by omega) (fun q hq => ?_)
      by_cases e : q = k
      · subst e; simpa using g
      · exact z q (by omega)
/-- the last bit, as told behind the loop -/
def lsB (R : Int32) (k0 j : Nat) (v : Int32) : Prop := (v = 0 ∧ ∀ q, k0 ≤ q → q < j → tb R q = false) ∨ ∃ q, k0 ≤ q ∧ q < j ∧ tb R q = true ∧ (∀ p, q < p → p < j → tb R p = false) ∧ v = nI (q - k0 + 1)
theorem c10_mh122 {R : Int32} {a1 : Int32} {k0 : Nat} (ho : o < K.1) (hc : (K.2.1 o).1 = 10)
    (h : ∀ I', Fz (fun a j => a = o ∧ j = 3) I I' → lsB R k0 24 (I' o 3) → Z n0 xX10_moveHome (d + 1) 0 0 158 [(0, .ref (n0 + o)), (1, .int a1), (4, .int (nI k0)), (5, .int 0)] [] K I' L (z_q0 K Q)) :
    ∀ w k I1, k + w = 24 → k0 ≤ k → Fz (fun a j => a = o ∧ j = 3) I I1 → lsB R k0 k (I1 o 3) → Z n0 xX10_moveHome (d + 1) 0 0 122 [(0, .ref (n0 + o)), (1, .int a1), (3, .int R), (4, .int (nI k0)), (5, .int (nI k))] [] K I1 L (z_q0 K Q) := by
  intro w
  induction w with
  | zero =>
    intro k I1 hk h0 f1 l1
    have : k = 24 := by omega
    subst this
    exact wp_X10_moveHome_122 (iq (by decide) (h I1 f1 l1))
  | succ w ih =>
    intro k I1 hk h0 f1 l1
    refine wp_X10_moveHome_122 (ip (nI_lt (b := 24) (by omega) (by omega)) ?_)
    rw [tb_shr (by omega), ← nI_succ]
    by_cases g : tb R k = true
    · refine iq (fun y => bI_0.mp y g) ⟨ho, hc, ih (k + 1) _ (by omega) (by omega) (f1.z ⟨rfl, rfl⟩) (Or.inr ⟨k, h0, by omega, g, fun p hp hp2 => by omega, ?_⟩)⟩
      rw [zI_s, show k = k0 + (k - k0) by omega, nI_sb, ← nI_succ, show k0 + (k - k0) - k0 = k - k0 by omega]
    · have gf : tb R k = false := by simpa using g
      refine ip (bI_0.mpr g) (ih (k + 1) I1 (by omega) (by omega) f1 ?_)
      rcases l1 with ⟨v, z⟩ | ⟨q, q1, q2, q3, q4, v⟩
      · refine Or.inl ⟨v, fun q hq hq2 => ?_⟩
        by_cases e : q = k
        · subst e; exact gf
        · exact z q hq (by omega)
      · refine Or.inr ⟨q, q1, by omega, q3, fun p hp hp2 => ?_, v⟩
        by_cases e : p = k
        · subst e; exact gf
        · exact q4 p hp (by omega)
def hm2 (C : Nat → Int32) (w a b k : Nat) : Int32 := if k < w then C (k + a) >>> (nI b &&& 31 : Int32) else 0
theorem c10_mh158 {wd a b : Nat} (ho : o < K.1) (hc : (K.2.1 o).1 = 10) (hr : K.2.2 o 0 = some c) (hcl : c < K.1) (hs : K.2.1 c = (20, 24)) (oc : c ≠ o) (hw : I o 2 = nI wd) (hwd : wd ≤ 24) (ha : 0 < wd → wd + a ≤ 24)
    (h : ∀ I', Fz (fun x _ => x = c) I I' → (∀ k, k < 24 → I' c k = hm2 (I c) wd a b k) → Q none I' L) :
    ∀ w k I1, k + w = 24 → Fz (fun x _ => x = c) I I1 → (∀ q, q < k → I1 c q = hm2 (I c) wd a b q) → (∀ q, k ≤ q → I1 c q = I c q) → Z n0 xX10_moveHome (d + 1) 0 0 158 [(0, .ref (n0 + o)), (1, .int (nI a)), (4, .int (nI b)), (5, .int (nI k))] [] K I1 L (z_q0 K Q) := by
  intro w
  induction w with
  | zero =>
    intro k I1 hk f1 v1 v2
    have : k = 24 := by omega
    subst this
    exact wp_X10_moveHome_158 (iq (by decide) (h I1 f1 v1))
  | succ w ih =>
    intro k I1 hk f1 v1 v2
    refine wp_X10_moveHome_158 (ip (nI_lt (b := 24) (by omega) (by omega)) ⟨ho, hc, c, hr, ?_⟩)
    rw [f1 o 2 (by omega), hw, q_cl (n := k) (by omega), ← nI_succ]
    by_cases g : k < wd
    · refine ip (nI_lt g (by omega)) ⟨24, hcl, hs, ?_, q_inn (by omega) (by omega), ?_⟩
      · rw [q_nadd]; exact q_inn (by have := ha (by omega); omega) (by omega)
      · rw [q_nadd, q_cl (by have := ha (by omega); omega), v2 (k + a) (by omega)]
        refine ih (k + 1) _ (by omega) (f1.z rfl) (fun q hq => ?_) (fun q hq => ?_)
        · by_cases e : q = k
          · subst e; rw [zI_s]; unfold hm2; rw [if_pos g]
          · rw [zI_d (by omega)]; exact v1 q (by omega)
        · rw [zI_d (by omega)]; exact v2 q (by omega)
    · refine iq (fun z => g ((q_nlt (by omega) (by omega)).mp z)) ⟨24, hcl, hs, q_inn (by omega) (by omega), ?_⟩
      refine ih (k + 1) _ (by omega) (f1.z rfl) (fun q hq => ?_) (fun q hq => ?_)
      · by_cases e : q = k
        · subst e; rw [zI_s]; unfold hm2; rw [if_neg g]
        · rw [zI_d (by omega)]; exact v1 q (by omega)
      · rw [zI_d (by omega)]; exact v2 q (by omega)
end MHM
