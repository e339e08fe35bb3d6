/-! a season, the reference's side -/
def DgI (I : z_I) (M n : Nat) : Prop := ∀ m, m < M → I 150 m = nI (dgS M n m)
def BsR (I : z_I) (M : Nat) (b : Nat × Nat) : Prop := b.1 < 1000000000 → ∀ m, m < M → I 151 m = nI (dgS M b.2 m)
def bsS (b : Nat × Nat) : Int32 := if b.1 < 1000000000 then nI b.1 else -1
def psS (f : Nat → Nat) (M n : Nat) : Nat → Nat
  | 0 => 0
  | i + 1 => psS f M n i + dgS M n i * f i
def snM (a _j : Nat) : Prop := a = 150 ∨ a = 151
def nxP (n0 d : Nat) (K : z_K) (I : z_I) (L : z_L) (Q : z_q) (a1 a3 : Int32) : Prop := (((if 0 < ((I 59 124) : Int32) then if a1 < 0 then 0 else if a3 < a1 then 0 else 1 else 0) : Int32) = 0 → ¬ ((((I 59 124) - 1) : Int32) < 0) → vp_in ((I 59 124) - 1) 6) ∧ vp_in (if (((I 59 124) - 1) : Int32) < 0 then 0 else ((I 59 124) - 1)) 6 ∧ Z n0 xX13_findSeason (d + 1) 0 0 190 [(0, .ref (n0 + 59)), (1, .int a1), (4, .int ((I 59 124) - 1))] [] K (zI I 150 ((if (((I 59 124) - 1) : Int32) < 0 then 0 else ((I 59 124) - 1)).toNatClampNeg) (if ((if 0 < ((I 59 124) : Int32) then if a1 < 0 then 0 else if a3 < a1 then 0 else 1 else 0) : Int32) = 0 then if (((I 59 124) - 1) : Int32) < 0 then (I 150 0) else (I 150 (((I 59 124) - 1).toNatClampNeg)) else 9)) L (z_q0 K Q)
section SNR
variable {n0 d M : Nat} {K : z_K} {I I' : z_I} {L : z_L} {Q : z_q} {w pn o : Nat → Nat} {n : Nat}
theorem dg_b : ∀ l n m, dgS l n m ≤ 9 := by
  intro l
  induction l with
  | zero => intro n m; exact Nat.zero_le _
  | succ l ih => intro n m; unfold dgS; split; omega; exact ih _ _
theorem ps_up {f : Nat → Nat} : ∀ i, i ≤ M → psS f (M + 1) n i = psS f M (n / 10) i := by
  intro i
  induction i with
  | zero => intro _; rfl
  | succ i ih =>
    intro hi
    show psS f (M + 1) n i + dgS (M + 1) n i * f i = psS f M (n / 10) i + dgS M (n / 10) i * f i
    rw [ih (by omega)]
    show _ + (if i = M then n % 10 else dgS M (n / 10) i) * f i = _
    rw [if_neg (by omega)]
theorem ps_tl {f : Nat → Nat} : ∀ M n, psS f M n M = tlS f 0 M n := by
  intro M
  induction M with
  | zero => intro n; rfl
  | succ M ih =>
    intro n
    show psS f (M + 1) n M + dgS (M + 1) n M * f M = tlS f 0 M (n / 10) + n % 10 * f (0 + M)
    rw [ps_up M (Nat.le_refl _), ih]
    show _ + (if M = M then n % 10 else _) * f M = _
    rw [if_pos rfl, Nat.zero_add]
theorem ps_b {f : Nat → Nat} {B : Nat} : ∀ i, (∀ m, m < i → f m ≤ B) → psS f M n i ≤ 9 * B * i := by
  intro i
  induction i with
  | zero => intro _; exact Nat.zero_le _
  | succ i ih =>
    intro h
    have a := ih (fun m hm => h m (by omega))
    have m : dgS M n i * f i ≤ 9 * B := Nat.mul_le_mul (dg_b _ _ _) (h i (by omega))
    show psS f M n i + dgS M n i * f i ≤ 9 * B * (i + 1)
    rw [Nat.mul_succ]; omega
theorem c13_allMet (hM : MLay K) (hS : SeD I M w pn o) (hD : DgI I M n) (h : Q (some (.int (bI (metS (cS pn) o M n)))) I L) : RM0 n0 xX13_allMet d [.ref (n0 + 59)] K I L Q := by
  have h6 := hS.1
  have l14 : ∀ s, s < 5 → (o s ≤ tlS (fun m => cS pn m s) 0 M n → Z n0 xX13_allMet d 0 0 4 [(0, .ref (n0 + 59)), (1, .int (nI (10 ^ s) * 10)), (2, .int (nI (s + 1)))] [] K I L (z_q0 K Q)) → ∀ v i, i + v = M → Z n0 xX13_allMet d 0 0 14 [(0, .ref (n0 + 59)), (1, .int (nI (10 ^ s))), (2, .int (nI s)), (3, .int (nI (psS (fun m => cS pn m s) M n i))), (4, .int (nI i))] [] K I L (z_q0 K Q) := by
    intro s hs nx v
    have hp : 10 ^ s ≤ 10 ^ 4 := Nat.pow_le_pow_right (by omega) (by omega)
    have hp0 : 0 < 10 ^ s := Nat.pow_pos (by omega)
    have ob := (hS.2.2.2.2 s hs)
    induction v with
    | zero =>
      intro i hi
      have : i = M := by omega
      subst this
      have pb := tlc_b (pn := pn) (s := s) (k := 0) (j := i) (N := n) (by omega)
      refine wp_X13_allMet_14 hM ?_
      rw [hS.2.2.1, q_cl (n := s) (by omega), ob.2.1, ps_tl, ← nI_succ (n := s)]
      refine iq (fun z => by have := q_lt.mp z; omega) ⟨q_inn (by omega) (by omega), ?_⟩
      by_cases g : tlS (fun m => cS pn m s) 0 i n < o s
      · refine ip (nI_lt g (by omega)) ?_
        rw [bI_f (fun z => by have := z s hs; omega)] at h
        exact h
      · exact iq (fun z => g ((q_nlt (by omega) (by omega)).mp z)) (nx (by omega))
    | succ v ih =>
      intro i hi
      obtain ⟨_, _, _, _, a5, a6, _⟩ := hS.2.2.2.1 i (by omega)
      have pb := ps_b (M := M) (n := n) (f := fun m => cS pn m s) (B := 9) i (fun m _ => cS_b)
      have db := dg_b M n i
      have cb := cS_b (pn := pn) (m := i) (s := s)
      have hdl : pn i / 10 ^ s ≤ pn i := Nat.div_le_self _ _
      refine wp_X13_allMet_14 hM ?_
      rw [hS.2.2.1, q_cl (n := i) (by omega), a5, hD i (by omega), q_ndiv (by omega) (by omega), q_nmod (by omega), q_nmul, q_nadd, ← nI_succ]
      exact ip (nI_lt (by omega) (by omega)) ⟨q_inn (by omega) (by omega), fun z => by have := (q_ni (b := 0) (by omega) (by omega)).mp z; omega, ih (i + 1) (by omega)⟩
  have l4 : ∀ v s, s + v = 5 → (∀ q, q < s → o q ≤ tlS (fun m => cS pn m q) 0 M n) → Z n0 xX13_allMet d 0 0 4 [(0, .ref (n0 + 59)), (1, .int (nI (10 ^ s))), (2, .int (nI s))] [] K I L (z_q0 K Q) := by
    intro v
    induction v with
    | zero =>
      intro s hs z
      have : s = 5 := by omega
      subst this
      rw [bI_t (show metS (cS pn) o M n from z)] at h
      exact wp_X13_allMet_4 hM (iq (by decide) h)
    | succ v ih =>
      intro s hs z
      refine wp_X13_allMet_4 hM (ip (nI_lt (b := 5) (by omega) (by omega)) (l14 s (by omega) (fun y => ?_) M 0 (by omega)))
      have e : nI (10 ^ s) * 10 = nI (10 ^ (s + 1)) := by rw [Nat.pow_succ]; exact q_nmul (b := 10)
      rw [e]
      refine ih (s + 1) (by omega) (fun q hq => ?_)
      by_cases x : q = s
      · subst x; exact y
      · exact z q (by omega)
  exact wp_X13_allMet hM (l4 5 0 (by omega) (fun q hq => by omega))
theorem dg_sh {j q : Nat} : ∀ e m, m < j + e → dgS (j + e) (q * 10 ^ e) m = if m < j then dgS j q m else 0 := by
  intro e
  induction e with
  | zero => intro m hm; rw [Nat.pow_zero, Nat.mul_one, if_pos (show m < j by omega)]; rfl
  | succ e ih =>
    intro m hm
    have x : q * 10 ^ (e + 1) = q * 10 ^ e * 10 := by rw [Nat.pow_succ, Nat.mul_assoc]
    show (if m = j + e then (q * 10 ^ (e + 1)) % 10 else dgS (j + e) (q * 10 ^ (e + 1) / 10) m) = _
    rw [x, show q * 10 ^ e * 10 % 10 = 0 by omega, show q * 10 ^ e * 10 / 10 = q * 10 ^ e by omega]
    by_cases y : m = j + e
    · rw [if_pos y, if_neg (by omega)]
    · rw [if_neg y]; exact ih m (by omega)
theorem c13_car {a1 : Int32} {T : Nat} (hM : MLay K) (h6 : M ≤ 6)
    (hend : T = 10 ^ M → ∀ I', Fz (fun a _ => a = 150) I I' → Z n0 xX13_findSeason (d + 1) 0 0 25 [(0, .ref (n0 + 59)), (1, .int a1), (2, .int 0)] [] K I' L (z_q0 K Q))
    (hgo : T < 10 ^ M → ∀ I', Fz (fun a _ => a = 150) I I' → DgI I' M T → Z n0 xX13_findSeason (d + 1) 0 0 25 [(0, .ref (n0 + 59)), (1, .int a1), (2, .int 1)] [] K I' L (z_q0 K Q)) :
    ∀ j q I1 e, j + e = M → q < 10 ^ j → T = (q + 1) * 10 ^ e → (∀ m, m < j → I1 150 m = nI (dgS j q m)) → (∀ m, j ≤ m → m < M → I1 150 m = 0) → Fz (fun a _ => a = 150) I I1 → Z n0 xX13_findSeason (d + 1) 0 0 190 [(0, .ref (n0 + 59)), (1, .int a1), (4, .int (nI j - 1))] [] K I1 L (z_q0 K Q) := by
  intro j
  induction j with
  | zero =>
    intro q I1 e he hq hT v1 v2 f1
    have : q = 0 := by rw [Nat.pow_zero] at hq; omega
    subst this
    have e1 : (nI 0 - 1 : Int32) < 0 := by decide
    have hT' : T = 10 ^ M := by rw [hT, ← he]; simp
    refine wp_X13_findSeason_190 hM (ip e1 (ip e1 ?_))
    rw [if_pos e1]
    exact hend hT' I1 f1
  | succ j ih =>
    intro q I1 e he hq hT v1 v2 f1
    have ng : ¬ nI j < 0 := fun z => by have := (q_nlt (b := 0) (by omega) (by omega)).mp z; omega
    have ed : I1 150 j = nI (q % 10) := by
      rw [v1 j (by omega)]
      show nI (if j = j then q % 10 else _) = _
      rw [if_pos rfl]
    have hp : 10 ^ (j + 1) = 10 ^ j * 10 := Nat.pow_succ 10 j
    rw [nI_prev]
    refine wp_X13_findSeason_190 hM (iq ng ⟨q_inn (by omega) (by omega), ?_⟩)
    rw [q_cl (by omega), ed]
    have lo : ∀ m, m < j → I1 150 m = nI (dgS j (q / 10) m) := fun m hm => by
      rw [v1 m (by omega)]
      show nI (if m = j then _ else _) = _
      rw [if_neg (by omega)]
    by_cases g : q % 10 = 9
    · refine ip (by rw [g]; rfl) ?_
      rw [← Int32.sub_eq_add_neg]
      refine ih (q / 10) _ (e + 1) (by omega) (by omega) ?_ (fun m hm => by rw [zI_d (by omega)]; exact lo m hm) (fun m h1 h2 => ?_) (Fz.z (S := fun a _ => a = 150) f1 rfl)
      · rw [hT, Nat.pow_succ, ← Nat.mul_assoc, Nat.mul_right_comm]
        congr 1
        omega
      · by_cases x : m = j
        · subst x; exact zI_s
        · rw [zI_d (by omega)]; exact v2 m (by omega) h2
    · refine iq (fun z => g ((q_ni (b := 9) (by omega) (by omega)).mp z)) (iq ng ?_)
      rw [if_neg ng, ← nI_succ]
      have hT1 : T < 10 ^ M := by
        rw [hT, ← he, Nat.pow_add]
        exact (Nat.mul_lt_mul_right (Nat.pow_pos (by omega))).mpr (by omega)
      refine hgo hT1 _ (Fz.z (S := fun a _ => a = 150) f1 rfl) (fun m hm => ?_)
      rw [hT, ← he, dg_sh e m (by omega)]
      by_cases x : m = j
      · subst x
        rw [zI_s, if_pos (by omega)]
        show _ = nI (if m = m then (q + 1) % 10 else _)
        rw [if_pos rfl]
        congr 1
        omega
      · rw [zI_d (by omega)]
        by_cases y : m < j
        · rw [if_pos (by omega), lo m y]
          show _ = nI (if m = j then _ else dgS j ((q + 1) / 10) m)
          rw [if_neg x, show (q + 1) / 10 = q / 10 by omega]
        · rw [if_neg (by omega), v2 m (by omega) (by omega)]; rfl
end SNR
