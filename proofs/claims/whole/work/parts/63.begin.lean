/-! a drawing begins -/
def flI (I : z_I) (a n : Nat) (v : Int32) : z_I := fun b => if b = a then (fun j => if j < n then v else I a j) else I b
section BEG
variable {n0 d : Nat} {K : z_K} {I : z_I} {L : z_L} {np nr nb na t : Nat} {pid pts rid rp rk ln cx cy bid m : Nat → Nat} {par : Nat → Option Nat} {X Y : Nat → List Int32} {A : Int32 → Int32 → Option (Int32 × Int32)} {dy sz : Int32}
theorem flI_n {a n b : Nat} {v : Int32} (h : b ≠ a) : flI I a n v b = I b := if_neg h
theorem flI_s {a n j : Nat} {v : Int32} : flI I a n v a j = if j < n then v else I a j := by
  show (if a = a then (fun j => if j < n then v else I a j) else I a) j = _
  rw [if_pos rfl]
theorem cJ_fill {Q : z_q} {a n : Nat} {v : Int32} (ha : a < K.1) (hs : K.2.1 a = (20, n)) (hn : n < 2 ^ 31) (h : Q none (flI I a n v) L) : RM0 n0 xJ7_fill_53178 d [.ref (n0 + a), .int v] K I L Q := by
  have lp : ∀ w k, k + w = n → Z n0 xJ7_fill_53178 d 0 0 5 [(0, .ref (n0 + a)), (1, .int v), (2, .int (nI k)), (3, .int (nI n))] [] K (flI I a k v) L (z_q0 K Q) := by
    intro w
    induction w with
    | zero =>
      intro k hk
      have : k = n := by omega
      subst this
      exact wp_J7_fill_53178_5 (iq (fun z => by have := q_lt.mp z; omega) h)
    | succ w ih =>
      intro k hk
      refine wp_J7_fill_53178_5 (ip (nI_lt (by omega) hn) ⟨n, ha, hs, q_inn (by omega) hn, ?_⟩)
      rw [q_cl (by omega), ← nI_succ]
      have e : zI (flI I a k v) a k v = flI I a (k + 1) v := by
        funext b j
        rw [zI_v]
        by_cases hb : b = a
        · subst hb
          rw [flI_s, flI_s]
          by_cases hj : j = k
          · rw [if_pos ⟨rfl, hj⟩, if_pos (by omega)]
          · rw [if_neg (fun z => hj z.2)]
            by_cases g : j < k
            · rw [if_pos g, if_pos (by omega)]
            · rw [if_neg g, if_neg (by omega)]
        · rw [if_neg (fun z => hb z.1), flI_n hb, flI_n hb]
      rw [e]
      exact ih (k + 1) (by omega)
  have e0 : flI I a 0 v = I := by
    funext b j
    by_cases hb : b = a
    · subst hb; rw [flI_s, if_neg (by omega)]
    · rw [flI_n hb]
  have := lp n 0 (by omega)
  rw [e0] at this
  exact wp_J7_fill_53178 ⟨n, ha, hs, this⟩
theorem c2_begin {Q : z_R} {o : Option Nat} (hC : CLay K) (h : Q none (zR K 8 2 o) (flI (zI (zI I 8 0 sz) 8 1 dy) 10 16 0) L) : RM n0 xX2_begin (d + 1) 0 0 [.ref (n0 + 8), .int sz, .int dy, zr n0 o] K I L Q :=
  wp_X2_begin hC (cJ_fill (K := zR K 8 2 o) (ca_10 hC).2.1 (ca_10 hC).2.2 (by decide) ⟨rfl, h⟩)
theorem fl_gS : Fz (gS K) I (flI (zI (zI I 8 0 sz) 8 1 dy) 10 16 0) := fun a j h => by
  unfold gS at h
  rw [flI_n (by omega), zI_r (by omega), zI_r (by omega)]
/-- the measures of a drawing, one by one -/
def msI (I : z_I) (ms : Nat → Int32) (k : Nat) : z_I := fun b => if b = 9 then (fun j => if j < k then ms j else I 9 j) else I b
theorem msI_n {ms : Nat → Int32} {k b : Nat} (h : b ≠ 9) : msI I ms k b = I b := if_neg h
theorem msI_v {ms : Nat → Int32} {k j : Nat} : msI I ms k 9 j = if j < k then ms j else I 9 j := by
  show (if 9 = 9 then (fun j => if j < k then ms j else I 9 j) else I 9) j = _
  rw [if_pos rfl]
theorem msI_0 {ms : Nat → Int32} : msI I ms 0 = I := by
  funext b j
  by_cases hb : b = 9
  · subst hb; rw [msI_v, if_neg (by omega)]
  · rw [msI_n hb]
theorem msI_s {ms : Nat → Int32} {k : Nat} : zI (msI I ms k) 9 k (ms k) = msI I ms (k + 1) := by
  funext b j
  rw [zI_v]
  by_cases hb : b = 9
  · subst hb
    rw [msI_v, msI_v]
    by_cases hj : j = k
    · rw [if_pos ⟨rfl, hj⟩, if_pos (by omega), hj]
    · rw [if_neg (fun z => hj z.2)]
      by_cases g : j < k
      · rw [if_pos g, if_pos (by omega)]
      · rw [if_neg g, if_neg (by omega)]
  · rw [if_neg (fun z => hb z.1), msI_n hb, msI_n hb]
theorem ms_gS {ms : Nat → Int32} {k : Nat} : Fz (gS K) I (msI I ms k) := fun a j h => by unfold gS at h; rw [msI_n (by omega)]
theorem EnC_0 {o : Option Nat} {ms : Nat → Int32} {mv : Nat → Nat → Int32 × Int32} (hW : Wd K I np nr nb na t pid pts rid rp rk ln cx cy bid m par X Y A) (ho : (o = none ∧ ∀ p k, mv p k = (0, 0)) ∨ ∃ b, b < nb ∧ o = some (bid b) ∧ ∀ p k, mv p k = mvA A b p k) :
    EnC (zR K 8 2 o) (msI (flI (zI (zI I 8 0 sz) 8 1 dy) 10 16 0) ms 8) np nb pid bid A ms (I 81) (fun p k => I 70 (10 * p + k)) (fun p k => I 71 (10 * p + k)) mv sz dy := by
  have hP := hW.2.2.2.1
  have hG := hW.2.2.2.2.2.2.2.2.1
  refine ⟨fun q hq => by rw [msI_v, if_pos hq], ?_, ?_, ?_, fun p k hp hk => ?_, ?_⟩
  · rw [msI_n (by omega), flI_n (by omega), zI_d (by omega), zI_s]
  · rw [msI_n (by omega), flI_n (by omega), zI_s]
  · rw [msI_n (by omega), flI_n (by omega), zI_r (by omega), zI_r (by omega)]
  · have := hP.ge hp
    rw [msI_n (by omega), flI_n (by omega), zI_r (by omega), zI_r (by omega), msI_n (by omega), flI_n (by omega), zI_r (by omega), zI_r (by omega)]
    exact ⟨(hG p k hp hk).1, (hG p k hp hk).2.1⟩
  · rw [zR_e]; exact ho
theorem c12_drawAt {Q : z_R} {s : Nat} (hW : Wd K I np nr nb na t pid pts rid rp rk ln cx cy bid m par X Y A) (hs : s < 11)
    (h : ∀ K' I' L', KD K K' → Fz (gS K) I I' → EnC K' I' np nb pid bid A (fun q => tabV I (nI q) (nI s) dy t) (I 81) (fun p k => I 70 (10 * p + k)) (fun p k => I 71 (10 * p + k)) (fun _ _ => (0, 0)) (nI s) dy → (∀ q, q < 16 → I' 10 q = 0) → Q none K' I' L') : RM n0 xX12_drawAt (d + 2) 0 0 [.ref (n0 + 0), .int (nI s), .int dy] K I L Q := by
  have hk : KD K (zR K 8 2 none) := KD.z8
  have fin := h (zR K 8 2 none) (msI (flI (zI (zI I 8 0 (nI s)) 8 1 dy) 10 16 0) (fun q => tabV I (nI q) (nI s) dy t) 8) L hk (fl_gS.trans ms_gS) (EnC_0 hW (Or.inl ⟨rfl, fun _ _ => rfl⟩)) (fun q hq => by rw [msI_n (by omega), flI_s, if_pos hq])
  have lp : ∀ w k, k + w = 8 → Z n0 xX12_drawAt (d + 2) 0 0 12 [(0, .ref (n0 + 0)), (1, .int (nI s)), (2, .int dy), (3, .int (nI k))] [] (zR K 8 2 none) (msI (flI (zI (zI I 8 0 (nI s)) 8 1 dy) 10 16 0) (fun q => tabV I (nI q) (nI s) dy t) k) L Q := by
    intro w
    induction w with
    | zero =>
      intro k hk8
      have : k = 8 := by omega
      subst this
      exact wp_X12_drawAt_12 (hW.1.kd hk) (iq (by decide) fin)
    | succ w ih =>
      intro k hk8
      have fz : Fz (gS K) I (msI (flI (zI (zI I 8 0 (nI s)) 8 1 dy) 10 16 0) (fun q => tabV I (nI q) (nI s) dy t) k) := fl_gS.trans ms_gS
      have w1 := hW.fr hk fz
      obtain ⟨c, c1, c2, c3⟩ := w1.2.2.2.2.2.2.2.2.2.2.2.2.2.2.2.1 k s (by omega) hs
      refine wp_X12_drawAt_12 w1.1 (ip (nI_lt (b := 8) (by omega) (by omega)) (c12_numberOn w1.1 (by omega) hs c1 ⟨_, rfl, q_inn (by omega) (by omega), ?_⟩))
      rw [q_cl (by omega), ← nI_succ, c2, tabV_fr fz]
      have := ih (k + 1) (by omega)
      rw [← msI_s] at this
      exact this
  have l0 := lp 8 0 (by omega)
  rw [msI_0] at l0
  exact wp_X12_drawAt hW.1 (c2_begin (o := none) hW.1 ⟨rfl, hW.1.kd hk, l0⟩)
theorem msd_fr {I' : z_I} {b q t : Nat} (hI : Fz (gS K) I I') : msd I' b q t = msd I b q t := by
  unfold msd
  rw [hI 65 _ (by unfold gS; omega), hI 64 _ (by unfold gS; omega), hI 59 0 (by unfold gS; omega), tabV_fr hI]
theorem c12_drawFor {Q : z_R} {b : Nat} (hW : Wd K I np nr nb na t pid pts rid rp rk ln cx cy bid m par X Y A) (hb : b < nb)
    (h : ∀ K' I' L', KD K K' → Fz (gS K) I I' → EnC K' I' np nb pid bid A (fun q => msd I b q t) (I 81) (fun p k => I 70 (10 * p + k)) (fun p k => I 71 (10 * p + k)) (mvA A b) (I 64 b) (I 59 0) → (∀ q, q < 16 → I' 10 q = 0) → Q none K' I' L') : RM n0 xX12_drawFor (d + 3) 0 0 [.ref (n0 + 0), .ref (n0 + bid b)] K I L Q := by
  have hk : KD K (zR K 8 2 (some (bid b))) := KD.z8
  have hB := hW.2.2.2.2.2.2.2.2.2.1
  have hM := hW.2.2.2.2.2.2.2.2.2.2.2.2.2.2.2.2
  have hd := hW.2.2.2.2.2.2.2.2.2.2.2.2.1
  have hlt := hB.lt hb
  have fin := h (zR K 8 2 (some (bid b))) (msI (flI (zI (zI I 8 0 (I 64 b)) 8 1 (I 59 0)) 10 16 0) (fun q => msd I b q t) 8) L hk (fl_gS.trans ms_gS) (EnC_0 hW (Or.inr ⟨b, hb, rfl, fun _ _ => rfl⟩)) (fun q hq => by rw [msI_n (by omega), flI_s, if_pos hq])
  have lp : ∀ w k, k + w = 8 → Z n0 xX12_drawFor (d + 3) 0 0 18 [(0, .ref (n0 + 0)), (1, .ref (n0 + bid b)), (2, .int (nI k))] [] (zR K 8 2 (some (bid b))) (msI (flI (zI (zI I 8 0 (I 64 b)) 8 1 (I 59 0)) 10 16 0) (fun q => msd I b q t) k) L Q := by
    intro w
    induction w with
    | zero =>
      intro k hk8
      have : k = 8 := by omega
      subst this
      exact wp_X12_drawFor_18 (hW.1.kd hk) (iq (by decide) fin)
    | succ w ih =>
      intro k hk8
      have fz : Fz (gS K) I (msI (flI (zI (zI I 8 0 (I 64 b)) 8 1 (I 59 0)) 10 16 0) (fun q => msd I b q t) k) := fl_gS.trans ms_gS
      have w1 := hW.fr hk fz
      obtain ⟨a1, a2, a3⟩ := w1.2.2.2.2.2.2.2.2.2.2.2.2.2.2.2.2 b hb
      refine wp_X12_drawFor_18 w1.1 (ip (nI_lt (b := 8) (by omega) (by omega)) (c12_countsNow w1.1 w1.2.2.2.2.2.2.2.2.2.1 hb (by omega) w1.2.2.2.2.2.2.2.2.2.2.2.2.1 (a3 k (by omega)).1 a1 a2 (a3 k (by omega)).2 w1.2.2.2.2.2.2.2.2.2.2.2.2.2.2.2.1 ⟨_, rfl, q_inn (by omega) (by omega), ?_⟩))
      rw [q_cl (by omega), ← nI_succ, msd_fr fz]
      have := ih (k + 1) (by omega)
      rw [← msI_s] at this
      exact this
  have l0 := lp 8 0 (by omega)
  rw [msI_0] at l0
  refine wp_X12_drawFor hW.1 ⟨by omega, hB.cls hb, ?_⟩
  rw [(hM b hb).1, hd]
  exact c2_begin (d := d + 1) (o := some (bid b)) hW.1 ⟨rfl, hW.1.kd hk, l0⟩
end BEG
