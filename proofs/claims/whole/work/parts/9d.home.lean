section FCH
variable {n0 d : Nat} {K : z_K} {I : z_I} {L : z_L} {Q : z_q} {N m : Nat} {s : Int32}
/-- the columns moved home -/
def hmC (C : Nat → Int32) (a b k : Nat) : Int32 := if k + a < 24 then C (k + a) >>> (nI b &&& 31 : Int32) else 0
theorem c13_fc531 {a7 : Int32} {a8 a9 : Nat} (hM : MLay K) (h8 : a8 ≤ 24)
    (h : ∀ I', Fz fcQ I I' → (∀ k, k < 24 → I' 114 k = hmC (I 114) a8 a9 k) → I' 59 84 = I 59 84 + (1 - nI a8) → I' 59 85 = I 59 85 + (1 - nI a9) → Q (some (.int a7)) I' L) :
    ∀ w k I1, k + w = 24 → Fz (fun a _ => a = 114) I I1 → (∀ c, c < k → I1 114 c = hmC (I 114) a8 a9 c) → (∀ c, k ≤ c → I1 114 c = I 114 c) → Z n0 xX13_findCells (d + 1) 0 0 531 [(0, .ref (n0 + 59)), (7, .int a7), (8, .int (nI a8)), (9, .int (nI a9)), (10, .int (nI k))] [] K I1 L (z_q0 K Q) := by
  intro w
  induction w with
  | zero =>
    intro k I1 hk f1 v1 v2
    have : k = 24 := by omega
    subst this
    refine wp_X13_findCells_531 hM (iq (by decide) (h _ (((f1.mono (fun a j z => Or.inl z)).z (Or.inr ⟨rfl, Or.inl rfl⟩)).z (Or.inr ⟨rfl, Or.inr rfl⟩)) (fun k hk => by rw [zI_r (by omega), zI_r (by omega)]; exact v1 k hk) ?_ ?_))
    · rw [zI_d (by omega), zI_s, f1 59 84 (by omega)]
    · rw [zI_s, f1 59 85 (by omega)]
  | succ w ih =>
    intro k I1 hk f1 v1 v2
    refine wp_X13_findCells_531 hM (ip (nI_lt (b := 24) (by omega) (by omega)) ?_)
    rw [q_nadd, q_cl (n := k) (by omega), q_cl (n := k + a8) (by omega), ← nI_succ]
    refine ⟨fun z => q_inn (by have := (q_nlt (b := 24) (by omega) (by omega)).mp z; omega) (by omega), q_inn (by omega) (by omega), ?_⟩
    have e : (if nI (k + a8) < (24 : Int32) then (I1 114 (k + a8) >>> (nI a9 &&& 31 : Int32)) else 0) = hmC (I 114) a8 a9 k := by
      unfold hmC
      by_cases g : k + a8 < 24
      · rw [if_pos g, if_pos (by exact nI_lt (b := 24) g (by omega)), v2 (k + a8) (by omega)]
      · rw [if_neg g, if_neg (by intro z; exact g ((q_nlt (b := 24) (by omega) (by omega)).mp z))]
    rw [e]
    refine ih (k + 1) _ (by omega) (f1.z rfl) (fun c hc => ?_) (fun c hc => ?_)
    · by_cases g : c = k
      · subst g; rw [zI_s]
      · rw [zI_d (by omega)]; exact v1 c (by omega)
    · rw [zI_d (by omega)]; exact v2 c (by omega)
/-- what findCells leaves: the columns at home, wide and high -/
def fcR (I' : z_I) (f : Nat → Nat → Bool) : Prop := 0 < (fcA f 24).1 → ∃ C : Nat → Int32, (∀ c, c < 24 → ∀ q, q < 32 → tb (C c) q = (decide (q < 24) && f c q)) ∧ (∀ k, k < 24 → I' 114 k = hmC C (fcA f 24).2.1 (fcA f 24).2.2.1 k) ∧ I' 59 84 = nI (fcA f 24).2.2.2.1 + (1 - nI (fcA f 24).2.1) ∧ I' 59 85 = nI (fcA f 24).2.2.2.2 + (1 - nI (fcA f 24).2.2.1)
theorem c13_fc382 (hM : MLay K) (hm : I 59 88 = nI (m + 1)) (hm2 : m < 162) (hN : I 59 61 = nI N) (hN2 : N < 162) (hw : ∀ k, k ≤ m → ckW (I 115 k) ∧ ckW (I 116 k)) (h0 : 1 ≤ s.toInt) (h1 : s.toInt ≤ 100000)
    (h : ∀ I', Fz fcQ I I' → fcR I' (inB I N m s) → Q (some (.int (nI (fcA (inB I N m s) 24).1))) I' L) :
    ∀ w i I1, i + w = 24 → Fz fcQ I I1 → (∀ c, c < i → ∀ q, q < 32 → tb (I1 114 c) q = (decide (q < 24) && inB I N m s c q)) → I1 59 84 = nI (fcA (inB I N m s) i).2.2.2.1 → I1 59 85 = nI (fcA (inB I N m s) i).2.2.2.2 → Z n0 xX13_findCells (d + 2) 0 0 382 [(0, .ref (n0 + 59)), (6, .int s), (7, .int (nI (fcA (inB I N m s) i).1)), (8, .int (nI (fcA (inB I N m s) i).2.1)), (9, .int (nI (fcA (inB I N m s) i).2.2.1)), (10, .int (nI i))] [] K I1 L (z_q0 K Q) := by
  intro w
  induction w with
  | zero =>
    intro i I1 hi f1 t1 e84 e85
    have : i = 24 := by omega
    subst this
    obtain ⟨b1, b2, b3, b4, b5⟩ := fcA_b (f := inB I N m s) 24 (Nat.le_refl _)
    refine wp_X13_findCells_382 hM (iq (by decide) ?_)
    by_cases g : 0 < (fcA (inB I N m s) 24).1
    · refine ip (nI_lt (a := 0) g (by omega)) (c13_fc531 (d := d + 1) (a8 := (fcA (inB I N m s) 24).2.1) (a9 := (fcA (inB I N m s) 24).2.2.1) hM b2 (fun I' f' v u84 u85 => h I' (f1.trans f') (fun _ => ⟨I1 114, t1, v, by rw [u84, e84], by rw [u85, e85]⟩)) 24 0 I1 (by omega) Fz.rfl' (fun c hc => by omega) (fun c _ => rfl))
    · refine iq (fun z => g ((q_nlt (a := 0) (by omega) (by omega)).mp z)) (h I1 f1 (fun z => absurd z g))
  | succ w ih =>
    intro i I1 hi f1 t1 e84 e85
    obtain ⟨b1, b2, b3, b4, b5⟩ := fcA_b (f := inB I N m s) i (by omega)
    refine wp_X13_findCells_382 hM (ip (nI_lt (b := 24) (by omega) (by omega)) ⟨q_inn (by omega) (by omega), ?_⟩)
    rw [q_cl (by omega)]
    have f2 : Fz fcQ I (zI I1 114 i 0) := f1.z (Or.inl rfl)
    have e115 : (zI I1 114 i 0) 115 = I 115 := funext fun q => f2 115 q (by unfold fcQ; omega)
    have e116 : (zI I1 114 i 0) 116 = I 116 := funext fun q => f2 116 q (by unfold fcQ; omega)
    have ein : inB (zI I1 114 i 0) N m s = inB I N m s := by
      funext a b
      unfold inB
      rw [show wkB (zI I1 114 i 0) N = wkB I N from funext fun a => funext fun b => funext fun k => by unfold wkB; rw [e115, e116]]
    refine c13_fc400 (I := zI I1 114 i 0) (s0 := fcA (inB I N m s) i) hM (by rw [f2 59 88 (by unfold fcQ; omega)]; exact hm) hm2 (by rw [f2 59 61 (by unfold fcQ; omega)]; exact hN) hN2 (fun k hk => by rw [e115, e116]; exact hw k hk) h0 h1 (by omega) ⟨b1, b2, b3, b4, b5⟩ ?_ 24 0 _ (by omega) Fz.rfl' (fun _ _ => rfl) (fun q hq => by rw [zI_s, tb_0, decide_eq_false (by omega)]; rfl) ?_ ?_
    · rw [ein]
      intro I' f' o' t' u84 u85
      refine ih (i + 1) I' (by omega) (f2.trans f') (fun c hc q hq => ?_) u84 u85
      by_cases e : c = i
      · subst e; exact t' q hq
      · rw [o' c e, zI_d (by omega)]; exact t1 c (by omega) q hq
    · show (zI I1 114 i 0) 59 84 = nI (fcA (inB I N m s) i).2.2.2.1
      rw [zI_r (by omega)]; exact e84
    · show (zI I1 114 i 0) 59 85 = nI (fcA (inB I N m s) i).2.2.2.2
      rw [zI_r (by omega)]; exact e85
end FCH
