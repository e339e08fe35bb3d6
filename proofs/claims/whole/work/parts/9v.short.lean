/-! the component's shortest laying and the judged row -/
/-- the best of all orders -/
def lyR (E : lyE) (N : Nat) : lyB := dfs E N N (fun _ => false) (fun _ _ => false) 0 (fun _ => 0) (97, fun _ => 0)
theorem q_nmd {a b : Nat} (ha : a < 2 ^ 31) (hb : b < 2 ^ 31) : nI a - nI a / nI b * nI b = nI (a % b) := by
  rw [q_ndiv ha hb, q_nmul]
  have e : a = a / b * b + a % b := by rw [Nat.mul_comm]; exact (Nat.div_add_mod a b).symm
  have := nI_sb (a := a / b * b) (b := a % b)
  rw [← e] at this
  exact this
def smN (f : Nat → Nat) : Nat → Nat
  | 0 => 0
  | k + 1 => smN f k + f k
theorem smN_b {f : Nat → Nat} {B : Nat} : ∀ k, (∀ q, q < k → f q ≤ B) → smN f k ≤ B * k := by
  intro k
  induction k with
  | zero => intro _; exact Nat.le_refl _
  | succ k ih =>
    intro h
    have a := ih (fun q hq => h q (by omega))
    have b := h k (by omega)
    show smN f k + f k ≤ B * (k + 1)
    rw [Nat.mul_succ]; omega
/-- the row of the bytes, judged -/
def jdg (E : lyE) (B : Nat → Nat) : Nat → Nat → (Nat → Nat → Bool) → Nat → Int32
  | 0, _, _, reach => nI reach
  | m + 1, i, T, reach => if okP E T i (B (i * 3)) (B (i * 3 + 1)) (B (i * 3 + 2)) then jdg E B m (i + 1) (putT T (E.2.2.1 i (B (i * 3 + 2))) (E.1 i) (B (i * 3)) (B (i * 3 + 1))) (mxN reach (B (i * 3) + E.1 i)) else -100 - nI i
section SHR
variable {n0 d N : Nat} {K : z_K} {I I' : z_I} {L : z_L} {Q : z_q} {E : lyE} {T : Nat → Nat → Bool} {i c r t : Nat}
theorem c4_findShortest (hE : LyC K I E N) (h : ∀ I', Fz lyQ I I' → I' 25 10 = nI (lyR E N).1 → PlB I' N (lyR E N) → Q (some (.int (if (lyR E N).1 < 97 then 1 else 0))) I' L) : RM0 n0 xX4_findShortest (d + N + 4) [.ref (n0 + 25)] K I L Q := by
  have q30 := ca_30 hE.1
  have f0 : Fz lyQ I (zI (flI I 30 96 0) 25 10 97) := Fz.z (fun a j z => by rw [flI_n (fun y => z (Or.inl (by omega)))]) (Or.inr ⟨rfl, rfl⟩)
  have hE0 := hE.fr f0
  have hN := hE.2.1.1
  refine wp_X4_findShortest hE.1 (cJ_fill q30.2.1 q30.2.2 (by omega) ⟨rfl, ?_⟩)
  refine c4_layNext (E := E) (N := N) (d := d) N 0 (fun _ => false) 0 (fun _ _ => false) 0 (fun _ => 0) (97, fun _ => 0) (zI (flI I 30 96 0) 25 10 97) _ (by omega) hE0 (fun i hi => tb_0) ((cnt_0 N).mpr (fun _ _ => rfl)) (fun x hx q hq => by rw [zI_r (by omega), flI_s, if_pos hx, tb_0]) (fun j _ z => by cases z) zI_s (by decide) (fun z => by simp at z) (by omega) (fun I' f' _ _ b' B' => ⟨rfl, ?_⟩)
  have e := h I' (f0.trans f') b' B'
  have b'' : I' 25 10 = nI (lyR E N).1 := b'
  rw [b'']
  have hle : (lyR E N).1 ≤ 97 := dfs_le N (fun _ => false) (fun _ _ => false) 0 (fun _ => 0) (97, fun _ => 0)
  have ei : (if nI (lyR E N).1 < (97 : Int32) then (1 : Int32) else 0) = if (lyR E N).1 < 97 then 1 else 0 := by
    by_cases g : (lyR E N).1 < 97
    · rw [if_pos g, if_pos (by exact nI_lt (b := 97) g (by omega))]
    · rw [if_neg g, if_neg (by intro z; exact g ((q_nlt (b := 97) (by omega) (by omega)).mp z))]
  rw [ei]
  exact e
theorem c4_bound {cn : Nat → Nat} (hE : LyC K I E N) (hc : ∀ i, i < N → I (36 + 3 * i) 4 = nI (cn i)) (h : Q (some (.int ((nI (smN cn N) + nI E.2.2.2.1 - 1) / nI E.2.2.2.1))) I L) : RM0 n0 xX4_bound (d + 1) [.ref (n0 + 25)] K I L Q := by
  have hN := hE.2.1.1
  have hcw := hE.2.1.2.2.1
  have lp : ∀ w k, k + w = N → Z n0 xX4_bound (d + 1) 0 0 15 [(0, .ref (n0 + 25)), (1, .int (nI E.2.2.2.1)), (2, .int (nI (smN cn k))), (3, .int (nI k))] [] K I L (z_q0 K Q) := by
    intro w
    induction w with
    | zero =>
      intro k hk
      refine wp_X4_bound_15 hE.1 ?_
      rw [hE.2.2.1, show k = N by omega]
      refine iq (fun z => by have := q_lt.mp z; omega) ⟨fun z => ?_, h⟩
      have := (q_ni (a := E.2.2.2.1) (b := 0) (by omega) (by omega)).mp z
      omega
    | succ w ih =>
      intro k hk
      obtain ⟨a1, ⟨o1, o2, o3, o4, _⟩, _⟩ := hE.2.2.2.2 k (by omega)
      refine wp_X4_bound_15 hE.1 ?_
      rw [hE.2.2.1]
      refine ip (nI_lt (by omega) (by omega)) ⟨q_inn (by omega) (by omega), 36 + 3 * k, by rw [q_cl (by omega)]; exact a1, by omega, o4, ?_⟩
      rw [hc k (by omega), q_nadd, ← nI_succ]
      exact ih (k + 1) (by omega)
  refine wp_X4_bound hE.1 ?_
  rw [hE.2.2.2.1.1]
  have : (if (1 : Int32) < nI E.2.2.2.1 then nI E.2.2.2.1 else 1) = nI E.2.2.2.1 := by
    by_cases g : 1 < E.2.2.2.1
    · rw [if_pos (by exact nI_lt (a := 1) g (by omega))]
    · rw [if_neg (by intro z; exact g ((q_nlt (a := 1) (by omega) (by omega)).mp z)), show E.2.2.2.1 = 1 by omega]; rfl
  rw [this]
  exact lp N 0 (by omega)
theorem c4_liesWell (hE : LyC K I E N) (hi : i < N) (h31 : I 31 i = nI c) (h32 : I 32 i = nI r) (h33 : I 33 i = nI t) (hc : c ≤ 95) (hr : r ≤ 95) (ht : t ≤ 95) (hT : TkI I 30 T) (h : Q (some (.int (bI (okP E T i c r t)))) I L) : RM0 n0 xX4_liesWell (d + 2) [.ref (n0 + 25), .int (nI i)] K I L Q := by
  have hN := hE.2.1.1
  obtain ⟨⟨hw1, hw2⟩, ⟨hh1, hh2⟩, _⟩ := hE.2.1.2.1 i hi
  obtain ⟨hcw, how, hst⟩ := hE.2.1.2.2
  obtain ⟨a1, ⟨o1, o2, o3, o4, _⟩, a3, a4, a5⟩ := hE.2.2.2.2 i hi
  have no : ¬ okP E T i c r t → Q (some (.int 0)) I L := fun z => by rw [bI_f z] at h; exact h
  have tail : t ≤ 1 → (t = 1 → E.2.2.2.2.1 ≠ 1) → (∃ q16, K.2.2 29 (nI i).toNatClampNeg = some q16 ∧ q16 < K.1 ∧ (K.2.1 q16).1 = 10 ∧ (if 96 < ((I 31 (nI i).toNatClampNeg) + (I q16 2) : Int32) then Q (some (.int 0)) I L else (if (I 26 0) < ((I 32 (nI i).toNatClampNeg) + (I q16 3) : Int32) then Q (some (.int 0)) I L else ¬ ((if 1 < (I 26 3) then (I 26 3) else 1) : Int32) = 0 ∧ (if (((I 31 (nI i).toNatClampNeg) - (I 31 (nI i).toNatClampNeg) / (if 1 < (I 26 3) then (I 26 3) else 1) * (if 1 < (I 26 3) then (I 26 3) else 1)) : Int32) = 0 then RM0 n0 xX4_isFree (d + 1) [.ref (n0 + 25), .int (nI i)] K I L (fun vv I23 L24 => ∃ r25 : Int32, vv = some (.int r25) ∧ z_b r25 ∧ Q (some (.int r25)) I23 L24) else Q (some (.int 0)) I L)))) := by
    intro t1 t2
    refine ⟨36 + 3 * i, by rw [q_cl (by omega)]; exact a1, by omega, o4, ?_⟩
    rw [q_cl (by omega), h31, h32, a3, a4, hE.2.2.2.1.1, hE.2.2.2.1.2.2, q_nadd, q_nadd]
    have es : (if (1 : Int32) < nI E.2.2.2.2.2 then nI E.2.2.2.2.2 else 1) = nI (sdN E) := n_if (a := 1) (b := E.2.2.2.2.2) (e := 1) (by omega) (by omega)
    have hsd : 1 ≤ sdN E ∧ sdN E ≤ 12 := by unfold sdN; split <;> omega
    rw [es, q_nmd (by omega) (by omega)]
    by_cases g1 : 96 < c + E.1 i
    · exact ip (nI_lt (a := 96) g1 (by omega)) (no (fun z => by have := z.1; omega))
    · refine iq (fun z => g1 ((q_nlt (a := 96) (by omega) (by omega)).mp z)) ?_
      by_cases g2 : E.2.2.2.1 < r + E.2.1 i
      · exact ip (nI_lt g2 (by omega)) (no (fun z => by have := z.2.1; omega))
      · refine iq (fun z => g2 ((q_nlt (by omega) (by omega)).mp z)) ⟨fun z => by have := (q_ni (a := sdN E) (b := 0) (by omega) (by omega)).mp z; omega, ?_⟩
        have hm : c % sdN E ≤ c := Nat.mod_le _ _
        by_cases g3 : c % sdN E = 0
        · refine ip (by rw [g3]; rfl) (c4_isFree (d := d) hE hi h31 h32 h33 (by omega) (by omega) t1 hT ⟨_, rfl, bI_b, ?_⟩)
          rw [bI_c (q := okP E T i c r t) ⟨fun z => ⟨by omega, by omega, t1, t2, g3, z⟩, fun z => z.2.2.2.2.2⟩]
          exact h
        · exact iq (fun z => g3 ((q_ni (b := 0) (by omega) (by omega)).mp z)) (no (fun z => g3 z.2.2.2.2.1))
  refine wp_X4_liesWell hE.1 ⟨q_inn (by omega) (by omega), ?_⟩
  rw [q_cl (n := i) (by omega)] at tail ⊢
  rw [h33, hE.2.2.2.1.2.1]
  by_cases g1 : 1 < t
  · exact ip (nI_lt (a := 1) g1 (by omega)) (no (fun z => by have := z.2.2.1; omega))
  · refine iq (fun z => g1 ((q_nlt (a := 1) (by omega) (by omega)).mp z)) ?_
    by_cases g2 : t = 1
    · refine ip (by rw [g2]; rfl) ?_
      by_cases g3 : E.2.2.2.2.1 = 1
      · exact ip (by rw [g3]; rfl) (no (fun z => z.2.2.2.1 g2 g3))
      · exact iq (fun z => g3 ((q_ni (b := 1) (by omega) (by omega)).mp z)) (tail (by omega) (fun _ => g3))
    · exact iq (fun z => g2 ((q_ni (b := 1) (by omega) (by omega)).mp z)) (tail (by omega) (fun z => absurd z g2))
theorem c4_judged {B : Nat → Nat} (hE : LyC K I E N) (hB : ∀ j, j < 12 → I 35 j = nI (B j) ∧ B j ≤ 95) (h : ∀ I', Fz lyQ I I' → Q (some (.int (jdg E B N 0 (fun _ _ => false) 0))) I' L) : RM0 n0 xX4_judged (d + 3) [.ref (n0 + 25)] K I L Q := by
  have hN := hE.2.1.1
  have q30 := ca_30 hE.1
  have lp : ∀ m i T reach I1, i + m = N → reach ≤ 96 → Fz lyQ I I1 → TkI I1 30 T → (∀ I', Fz lyQ I I' → Q (some (.int (jdg E B m i T reach))) I' L) → Z n0 xX4_judged (d + 3) 0 0 12 [(0, .ref (n0 + 25)), (1, .int (nI reach)), (2, .int (nI i))] [] K I1 L (z_q0 K Q) := by
    intro m
    induction m with
    | zero =>
      intro i T reach I1 hi hre f1 t1 h
      refine wp_X4_judged_12 hE.1 ?_
      rw [(hE.fr f1).2.2.1]
      exact iq (fun z => by have := (q_nlt (by omega) (by omega)).mp z; omega) (h I1 f1)
    | succ m ih =>
      intro i T reach I1 hi hre f1 t1 h
      have hiN : i < N := by omega
      have m0 : nI i * 3 = nI (i * 3) := q_nmul (b := 3)
      have m1 : nI (i * 3) + 1 = nI (i * 3 + 1) := q_nadd (b := 1)
      have m2 : nI (i * 3) + 2 = nI (i * 3 + 2) := q_nadd (b := 2)
      obtain ⟨b0, c0⟩ := hB (i * 3) (by omega)
      obtain ⟨b1, c1⟩ := hB (i * 3 + 1) (by omega)
      obtain ⟨b2, c2⟩ := hB (i * 3 + 2) (by omega)
      refine wp_X4_judged_12 hE.1 ?_
      rw [(hE.fr f1).2.2.1, m0, m1, m2]
      refine ip (nI_lt (by omega) (by omega)) ⟨q_inn (by omega) (by omega), q_inn (by omega) (by omega), q_inn (by omega) (by omega), q_inn (by omega) (by omega), ?_⟩
      rw [q_cl (n := i) (by omega), q_cl (n := i * 3) (by omega), q_cl (n := i * 3 + 1) (by omega), q_cl (n := i * 3 + 2) (by omega), f1 35 _ (by unfold lyQ; omega), f1 35 _ (by unfold lyQ; omega), f1 35 _ (by unfold lyQ; omega), b0, b1, b2]
      have f2 : Fz lyQ I (zI (zI (zI I1 31 i (nI (B (i * 3)))) 32 i (nI (B (i * 3 + 1)))) 33 i (nI (B (i * 3 + 2)))) := ((f1.z (Or.inl (by omega))).z (Or.inl (by omega))).z (Or.inl (by omega))
      have hE2 := hE.fr f2
      have e31 : (zI (zI (zI I1 31 i (nI (B (i * 3)))) 32 i (nI (B (i * 3 + 1)))) 33 i (nI (B (i * 3 + 2)))) 31 i = nI (B (i * 3)) := by rw [zI_r (by omega), zI_r (by omega), zI_s]
      have e32 : (zI (zI (zI I1 31 i (nI (B (i * 3)))) 32 i (nI (B (i * 3 + 1)))) 33 i (nI (B (i * 3 + 2)))) 32 i = nI (B (i * 3 + 1)) := by rw [zI_r (by omega), zI_s]
      have e33 : (zI (zI (zI I1 31 i (nI (B (i * 3)))) 32 i (nI (B (i * 3 + 1)))) 33 i (nI (B (i * 3 + 2)))) 33 i = nI (B (i * 3 + 2)) := zI_s
      have t2 : TkI (zI (zI (zI I1 31 i (nI (B (i * 3)))) 32 i (nI (B (i * 3 + 1)))) 33 i (nI (B (i * 3 + 2)))) 30 T := t1.fr (by rw [zI_r (by omega), zI_r (by omega), zI_r (by omega)])
      refine c4_liesWell (d := d) hE2 hiN e31 e32 e33 c0 c1 c2 t2 ⟨_, rfl, ?_⟩
      have ej : jdg E B (m + 1) i T reach = if okP E T i (B (i * 3)) (B (i * 3 + 1)) (B (i * 3 + 2)) then jdg E B m (i + 1) (putT T (E.2.2.1 i (B (i * 3 + 2))) (E.1 i) (B (i * 3)) (B (i * 3 + 1))) (mxN reach (B (i * 3) + E.1 i)) else -100 - nI i := rfl
      by_cases g : okP E T i (B (i * 3)) (B (i * 3 + 1)) (B (i * 3 + 2))
      · rw [ej, if_pos g] at h
        rw [bI_t g]
        have hcw := hE.2.1.2.2.1
        have hh := (hE.2.1.2.1 i hiN).2.1
        obtain ⟨k1, k2, k3, _⟩ := g
        refine iq (by decide) (c4_flip (d := d + 1) hE2 hiN e31 e32 e33 k1 (by omega) k3 t2 (fun I3 f3 t3 => ⟨rfl, ?_⟩))
        have f3q : Fz lyQ I I3 := f2.trans (f3.mono (fun a j z => Or.inl (by omega)))
        obtain ⟨a1, ⟨o1, o2, o3, o4, _⟩, _⟩ := hE.2.2.2.2 i hiN
        refine ⟨36 + 3 * i, a1, by omega, o4, ?_⟩
        rw [f3 31 i (by omega), e31, ((hE.fr f3q).2.2.2.2 i hiN).2.2.1, q_nadd, n_if (by omega) (by omega), ← nI_succ]
        exact ih (i + 1) _ (mxN reach (B (i * 3) + E.1 i)) I3 (by omega) (by unfold mxN; split <;> omega) f3q t3 h
      · rw [ej, if_neg g] at h
        rw [bI_f g]
        exact ip rfl (h _ f2)
  refine wp_X4_judged hE.1 (cJ_fill q30.2.1 q30.2.2 (by omega) ⟨rfl, ?_⟩)
  exact lp N 0 (fun _ _ => false) 0 _ (by omega) (by omega) (fun a j z => by rw [flI_n (fun y => z (Or.inl (by omega)))]) (fun x hx q hq => by rw [flI_s, if_pos hx, tb_0]) h
end SHR
