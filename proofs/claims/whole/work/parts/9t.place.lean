theorem md_gap {c c' s : Nat} (h1 : c % s = 0) (h2 : c' % s = 0) (h3 : c < c') (h4 : c' < c + s) : False := by
  have a := Nat.dvd_of_mod_eq_zero h1
  have b := Nat.dvd_of_mod_eq_zero h2
  have e := Nat.dvd_sub b a
  have := Nat.le_of_dvd (by omega) e
  omega
theorem md_add {c s : Nat} (h1 : c % s = 0) : (c + s) % s = 0 := by rw [Nat.add_mod_right]; exact h1
def pkS (i a j : Nat) : Prop := (a = 31 ∨ a = 32 ∨ a = 33) ∧ j = i
def sdN (E : lyE) : Nat := if 1 < E.2.2.2.2.2 then E.2.2.2.2.2 else 1
def tnN (E : lyE) : Nat := if E.2.2.2.2.1 = 1 then 1 else 2
section FPL
variable {n0 d N : Nat} {K : z_K} {I I' : z_I} {L : z_L} {Q : z_q} {E : lyE} {T : Nat → Nat → Bool} {i c r t : Nat}
def plP (E : lyE) (T : Nat → Nat → Bool) (i n : Nat) : Bool := decide (okP E T i (n / 48) (n / 2 % 24) (n % 2))
theorem plP_f {n : Nat} (h : ¬ okP E T i (n / 48) (n / 2 % 24) (n % 2)) : plP E T i n = false := decide_eq_false h
theorem c4_fp74 (hE : LyC K I E N) (hi : i < N) (hT : TkI I 30 T) (hc : c + E.1 i ≤ 96) (hr : r + E.2.1 i ≤ E.2.2.2.1) (hs : c % sdN E = 0)
    (hS : ∀ n I', plN E T i = some n → Fz (pkS i) I I' → PlI I' 31 32 33 i n → Q (some (.int 1)) I' L)
    (h50 : ∀ I1, Fz (pkS i) I I1 → (∀ n, n < (c * 24 + (r + 1)) * 2 → plP E T i n = false) → Z n0 xX4_findPlace (d + 2) 0 0 50 [(0, .ref (n0 + 25)), (1, .int (nI i)), (2, .int (nI (tnN E))), (3, .int (nI (sdN E))), (4, .int (nI c)), (5, .int (nI (r + 1)))] [] K I1 L (z_q0 K Q)) :
    ∀ m t I1, t + m = tnN E → Fz (pkS i) I I1 → (∀ n, n < (c * 24 + r) * 2 + t → plP E T i n = false) → Z n0 xX4_findPlace (d + 2) 0 0 74 [(0, .ref (n0 + 25)), (1, .int (nI i)), (2, .int (nI (tnN E))), (3, .int (nI (sdN E))), (4, .int (nI c)), (5, .int (nI r)), (6, .int (nI t))] [] K I1 L (z_q0 K Q) := by
  have hN := hE.2.1.1
  obtain ⟨⟨hw1, hw2⟩, ⟨hh1, hh2⟩, _⟩ := hE.2.1.2.1 i hi
  have hcw := hE.2.1.2.2.1
  have ht2 : tnN E ≤ 2 := by unfold tnN; split <;> omega
  intro m
  induction m with
  | zero =>
    intro t I1 hm f1 z1
    refine wp_X4_findPlace_74 hE.1 (iq (fun z => by have := (q_nlt (by omega) (by omega)).mp z; omega) ?_)
    rw [← nI_succ]
    refine h50 I1 f1 (fun n hn => ?_)
    by_cases e : n < (c * 24 + r) * 2 + t
    · exact z1 n e
    · refine plP_f (fun ok => ?_)
      obtain ⟨_, _, _, o4, _⟩ := ok
      unfold tnN at hm
      by_cases w : E.2.2.2.2.1 = 1
      · rw [if_pos w] at hm; exact o4 (by omega) w
      · rw [if_neg w] at hm; omega
  | succ m ih =>
    intro t I1 hm f1 z1
    have hE2 : LyC K (zI (zI (zI I1 31 i (nI c)) 32 i (nI r)) 33 i (nI t)) E N := hE.fr (((((f1.z ⟨Or.inl rfl, rfl⟩).z ⟨Or.inr (Or.inl rfl), rfl⟩).z ⟨Or.inr (Or.inr rfl), rfl⟩)).mono (fun a j z => by unfold pkS at z; unfold lyQ; omega))
    have f2 : Fz (pkS i) I (zI (zI (zI I1 31 i (nI c)) 32 i (nI r)) 33 i (nI t)) := ((f1.z ⟨Or.inl rfl, rfl⟩).z ⟨Or.inr (Or.inl rfl), rfl⟩).z ⟨Or.inr (Or.inr rfl), rfl⟩
    have e31 : (zI (zI (zI I1 31 i (nI c)) 32 i (nI r)) 33 i (nI t)) 31 i = nI c := by rw [zI_r (by omega), zI_r (by omega), zI_s]
    have e32 : (zI (zI (zI I1 31 i (nI c)) 32 i (nI r)) 33 i (nI t)) 32 i = nI r := by rw [zI_r (by omega), zI_s]
    have e33 : (zI (zI (zI I1 31 i (nI c)) 32 i (nI r)) 33 i (nI t)) 33 i = nI t := zI_s
    have e30 : (zI (zI (zI I1 31 i (nI c)) 32 i (nI r)) 33 i (nI t)) 30 = I 30 := funext fun j => f2 30 j (by unfold pkS; omega)
    refine wp_X4_findPlace_74 hE.1 (ip (nI_lt (by omega) (by omega)) ⟨q_inn (by omega) (by omega), ?_⟩)
    rw [q_cl (by omega)]
    refine c4_isFree (d := d) hE2 hi e31 e32 e33 hc (by omega) (by omega) (hT.fr e30) ⟨_, rfl, ?_⟩
    have d1 : ((c * 24 + r) * 2 + t) / 48 = c := by omega
    have d2 : ((c * 24 + r) * 2 + t) / 2 % 24 = r := by omega
    have d3 : ((c * 24 + r) * 2 + t) % 2 = t := by omega
    by_cases g : frP T (E.2.2.1 i t) (E.1 i) c r
    · rw [bI_t g]
      refine iq (by decide) (hS ((c * 24 + r) * 2 + t) _ ?_ f2 ?_)
      · refine frs_s (p := fun n => plP E T i n) ?_ 4608 0 (Nat.zero_le _) (by omega) (fun q _ hq => z1 q hq)
        refine decide_eq_true ?_
        rw [d1, d2, d3]
        refine ⟨hc, hr, by omega, fun e w => ?_, hs, g⟩
        unfold tnN at hm
        rw [if_pos w] at hm
        omega
      · unfold PlI
        rw [d1, d2, d3]
        exact ⟨e31, e32, e33⟩
    · rw [bI_f g, ← nI_succ]
      refine ip rfl (ih (t + 1) _ (by omega) f2 (fun n hn => ?_))
      by_cases e : n = (c * 24 + r) * 2 + t
      · subst e
        refine plP_f (fun ok => g ?_)
        rw [d1, d2, d3] at ok
        exact ok.2.2.2.2.2
      · exact z1 n (by omega)
theorem c4_fp50 (hE : LyC K I E N) (hi : i < N) (hT : TkI I 30 T) (hc : c + E.1 i ≤ 96) (hs : c % sdN E = 0)
    (hS : ∀ n I', plN E T i = some n → Fz (pkS i) I I' → PlI I' 31 32 33 i n → Q (some (.int 1)) I' L)
    (h30 : ∀ I1, Fz (pkS i) I I1 → (∀ n, n < (c + sdN E) * 48 → plP E T i n = false) → Z n0 xX4_findPlace (d + 2) 0 0 30 [(0, .ref (n0 + 25)), (1, .int (nI i)), (2, .int (nI (tnN E))), (3, .int (nI (sdN E))), (4, .int (nI (c + sdN E)))] [] K I1 L (z_q0 K Q)) :
    ∀ m r I1, r + m = 24 → Fz (pkS i) I I1 → (∀ n, n < (c * 24 + r) * 2 → plP E T i n = false) → Z n0 xX4_findPlace (d + 2) 0 0 50 [(0, .ref (n0 + 25)), (1, .int (nI i)), (2, .int (nI (tnN E))), (3, .int (nI (sdN E))), (4, .int (nI c)), (5, .int (nI r))] [] K I1 L (z_q0 K Q) := by
  have hN := hE.2.1.1
  obtain ⟨⟨hw1, hw2⟩, ⟨hh1, hh2⟩, _⟩ := hE.2.1.2.1 i hi
  have hcw := hE.2.1.2.2.1
  obtain ⟨a1, ⟨o1, o2, o3, o4, _⟩, a3, a4, _⟩ := hE.2.2.2.2 i hi
  have out : ∀ r I1, r ≤ 24 → Fz (pkS i) I I1 → E.2.2.2.1 < r + E.2.1 i → (∀ n, n < (c * 24 + r) * 2 → plP E T i n = false) → Z n0 xX4_findPlace (d + 2) 0 0 50 [(0, .ref (n0 + 25)), (1, .int (nI i)), (2, .int (nI (tnN E))), (3, .int (nI (sdN E))), (4, .int (nI c)), (5, .int (nI r))] [] K I1 L (z_q0 K Q) := by
    intro r I1 hr f1 g z1
    refine wp_X4_findPlace_50 hE.1 ⟨q_inn (by omega) (by omega), _, by rw [q_cl (by omega)]; exact a1, by omega, o4, ?_⟩
    rw [f1 26 0 (by unfold pkS; omega), f1 _ 3 (by unfold pkS; omega), a4, hE.2.2.2.1.1, q_nadd, q_nadd]
    refine ip (nI_lt (by omega) (by omega)) (h30 I1 f1 (fun n hn => ?_))
    by_cases e : n < (c * 24 + r) * 2
    · exact z1 n e
    · refine plP_f (fun ok => ?_)
      obtain ⟨_, k2, _, _, k5, _⟩ := ok
      by_cases e2 : n / 48 = c
      · have : r ≤ n / 2 % 24 := by omega
        omega
      · exact md_gap (s := sdN E) hs k5 (by omega) (by omega)
  intro m
  induction m with
  | zero => intro r I1 hm f1 z1; exact out r I1 (by omega) f1 (by omega) z1
  | succ m ih =>
    intro r I1 hm f1 z1
    by_cases g : E.2.2.2.1 < r + E.2.1 i
    · exact out r I1 (by omega) f1 g z1
    · refine wp_X4_findPlace_50 hE.1 ⟨q_inn (by omega) (by omega), _, by rw [q_cl (by omega)]; exact a1, by omega, o4, ?_⟩
      rw [f1 26 0 (by unfold pkS; omega), f1 _ 3 (by unfold pkS; omega), a4, hE.2.2.2.1.1, q_nadd]
      refine iq (fun z => g ((q_nlt (by omega) (by omega)).mp z)) ?_
      exact c4_fp74 hE hi hT hc (by omega) hs hS (fun I2 f2 z2 => ih (r + 1) I2 (by omega) f2 z2) (tnN E) 0 I1 (by omega) f1 z1
theorem c4_fp30 (hE : LyC K I E N) (hi : i < N) (hT : TkI I 30 T)
    (hS : ∀ n I', plN E T i = some n → Fz (pkS i) I I' → PlI I' 31 32 33 i n → Q (some (.int 1)) I' L)
    (hZ : ∀ I', plN E T i = none → Fz (pkS i) I I' → Q (some (.int 0)) I' L) :
    ∀ m c I1, 97 ≤ c + m → c ≤ 120 → c % sdN E = 0 → Fz (pkS i) I I1 → (∀ n, n < c * 48 → plP E T i n = false) → Z n0 xX4_findPlace (d + 2) 0 0 30 [(0, .ref (n0 + 25)), (1, .int (nI i)), (2, .int (nI (tnN E))), (3, .int (nI (sdN E))), (4, .int (nI c))] [] K I1 L (z_q0 K Q) := by
  have hN := hE.2.1.1
  obtain ⟨⟨hw1, hw2⟩, ⟨hh1, hh2⟩, _⟩ := hE.2.1.2.1 i hi
  obtain ⟨a1, ⟨o1, o2, o3, o4, _⟩, a3, a4, _⟩ := hE.2.2.2.2 i hi
  have hsd : 1 ≤ sdN E ∧ sdN E ≤ 12 := by have := hE.2.1.2.2.2.2; unfold sdN; split <;> omega
  have out : ∀ c I1, c ≤ 120 → Fz (pkS i) I I1 → 96 < c + E.1 i → (∀ n, n < c * 48 → plP E T i n = false) → Z n0 xX4_findPlace (d + 2) 0 0 30 [(0, .ref (n0 + 25)), (1, .int (nI i)), (2, .int (nI (tnN E))), (3, .int (nI (sdN E))), (4, .int (nI c))] [] K I1 L (z_q0 K Q) := by
    intro c I1 hc f1 g z1
    refine wp_X4_findPlace_30 hE.1 ⟨q_inn (by omega) (by omega), _, by rw [q_cl (by omega)]; exact a1, by omega, o4, ?_⟩
    rw [f1 _ 2 (by unfold pkS; omega), a3, q_nadd]
    refine ip (nI_lt (a := 96) (by omega) (by omega)) (hZ I1 (frs_n (p := fun n => plP E T i n) 4608 0 (fun n _ hn => ?_)) f1)
    by_cases e : n < c * 48
    · exact z1 n e
    · exact plP_f (fun ok => by have := ok.1; omega)
  intro m
  induction m with
  | zero => intro c I1 hm hc hs f1 z1; exact out c I1 hc f1 (by omega) z1
  | succ m ih =>
    intro c I1 hm hc hs f1 z1
    by_cases g : 96 < c + E.1 i
    · exact out c I1 hc f1 g z1
    · refine wp_X4_findPlace_30 hE.1 ⟨q_inn (by omega) (by omega), _, by rw [q_cl (by omega)]; exact a1, by omega, o4, ?_⟩
      rw [f1 _ 2 (by unfold pkS; omega), a3, q_nadd]
      refine iq (fun z => g ((q_nlt (a := 96) (by omega) (by omega)).mp z)) ?_
      exact c4_fp50 hE hi hT (by omega) hs hS (fun I2 f2 z2 => ih (c + sdN E) I2 (by omega) (by omega) (md_add hs) f2 z2) 24 0 I1 (by omega) f1 (fun n hn => z1 n (by omega))
theorem c4_findPlace (hE : LyC K I E N) (hi : i < N) (hT : TkI I 30 T)
    (hS : ∀ n I', plN E T i = some n → Fz (pkS i) I I' → PlI I' 31 32 33 i n → Q (some (.int 1)) I' L)
    (hZ : ∀ I', plN E T i = none → Fz (pkS i) I I' → Q (some (.int 0)) I' L) :
    RM0 n0 xX4_findPlace (d + 2) [.ref (n0 + 25), .int (nI i)] K I L Q := by
  refine wp_X4_findPlace hE.1 ?_
  obtain ⟨_, e2, e3⟩ := hE.2.2.2.1
  have ho := hE.2.1.2.2.2.1
  have hst := hE.2.1.2.2.2.2
  rw [e2, e3]
  have t1 : (if nI E.2.2.2.2.1 = 1 then (1 : Int32) else 2) = nI (tnN E) := by
    unfold tnN
    by_cases w : E.2.2.2.2.1 = 1
    · rw [if_pos w, w]; rfl
    · rw [if_neg w, show E.2.2.2.2.1 = 0 by omega]; rfl
  have t2 : (if (1 : Int32) < nI E.2.2.2.2.2 then nI E.2.2.2.2.2 else 1) = nI (sdN E) := by
    unfold sdN
    exact n_if (a := 1) (b := E.2.2.2.2.2) (e := 1) (by omega) (by omega)
  rw [t1, t2]
  exact c4_fp30 hE hi hT hS hZ 97 0 I (by omega) (by omega) (Nat.zero_mod _) Fz.rfl' (fun n hn => by omega)
end FPL
