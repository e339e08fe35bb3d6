section SEM
variable {n0 d dr dd mc ms : Nat} {K : z_K} {I : z_I} {L : z_L}
/-- a new seam's cells: from b on -/
def SmB (K : z_K) (I : z_I) (b one : Nat) (p1 p2 p3 p4 : Int32) : Prop := (K.2.1 b).1 = 8 ∧ K.2.1 (b + 1) = (20, 6) ∧ K.2.1 (b + 2) = (20, 6) ∧ K.2.2 b 9 = some (b + 1) ∧ K.2.2 b 10 = some (b + 2) ∧ K.2.2 b 0 = some one ∧ I b 1 = p1 ∧ I b 2 = p2 ∧ I b 3 = p3 ∧ I b 4 = p4 ∧ I b 8 = 0 ∧ I b 11 = 0
theorem zR_o {K : z_K} {a j k : Nat} {v : Option Nat} (h : k ≠ j) : (zR K a j v).2.2 a k = K.2.2 a k := by simp [zR, h]
theorem zR_e {K : z_K} {a j : Nat} {v : Option Nat} : (zR K a j v).2.2 a j = v := by simp [zR]
set_option maxRecDepth 100000 in
theorem c8_init {Q : z_R} {K0 : z_K} {I0 : z_I} {L0 : z_L} {b one : Nat} {p1 p2 p3 p4 : Int32} (hb : K0.1 = b) (hK : K = zN K0 8 0) (hI : I = zI0 I0 b) (hL : L = zL0 L0 b) (h : ∀ K' I' L', Ext K0 K' I0 I' L0 L' b 3 → SmB K' I' b one p1 p2 p3 p4 → Q none K' I' L') : RM n0 xX8_init (d + 1) 2 12 [.ref (n0 + b), .ref (n0 + one), .int p1, .int p2, .int p3, .int p4] K I L Q := by
  obtain ⟨f1, f2, f3, f4, f5⟩ := z_new_ok hb hK
  obtain ⟨i1, i2⟩ := zI0_ok hI
  obtain ⟨l1, l2⟩ := zL0_ok hL
  refine ct_X8_init (by omega) f2 ?_
  obtain ⟨a1, a2, a3, a4, a5, a6, a7, a8, a9⟩ := ct_facts b [(9, 20, 6), (10, 20, 6)] (K, I, L) (show b < K.1 by omega) (ct_dis (by decide))
  generalize List.foldl (ctA b) (K, I, L) [(9, 20, 6), (10, 20, 6)] = S at a1 a2 a3 a4 a5 a6 a7 a8 a9 ⊢
  dsimp only at a1 a2 a3 a4 a5 a6 a7 a8 a9
  rw [f1] at a1 a2 a3 a5 a6 a7 a8 a9
  have b0 := a5 0 _ rfl
  have b1 := a5 1 _ rfl
  show Q none (zR (zR S.1 b 0 (some one)) b 5 (some one)) (zI (zI (zI (zI S.2.1 b 1 p1) b 2 p2) b 3 p3) b 4 p4) S.2.2
  have ib : ∀ k, S.2.1 b k = 0 := fun k => by rw [a6 b (by omega), i2]
  refine h _ _ _ ⟨hb, by show S.1.1 = _; rw [a1]; rfl, fun a ha => ?_, fun a ha => ?_, fun a ha => ?_, fun a ha => by rw [a7 a (by omega), l1 a ha]⟩ ⟨?_, b0.2.1, b1.2.1, ?_, ?_, ?_, ?_, ?_, ?_, ?_, ?_, ?_⟩
  · show S.1.2.1 a = _
    rw [a2 a (by omega), f3 a ha]
  · rw [zR_ne (by omega), zR_ne (by omega), a3 a (by omega) (by omega), f4 a ha]
  · rw [zI_r (by omega), zI_r (by omega), zI_r (by omega), zI_r (by omega), a6 a (by omega), i1 a ha]
  · show (S.1.2.1 b).1 = 8
    rw [a2 b (by omega)]; exact f2
  · rw [zR_o (by omega), zR_o (by omega)]; exact b0.1
  · rw [zR_o (by omega), zR_o (by omega)]; exact b1.1
  · rw [zR_o (by omega), zR_e]
  · rw [zI_d (by omega), zI_d (by omega), zI_d (by omega), zI_s]
  · rw [zI_d (by omega), zI_d (by omega), zI_s]
  · rw [zI_d (by omega), zI_s]
  · rw [zI_s]
  · rw [zI_d (by omega), zI_d (by omega), zI_d (by omega), zI_d (by omega), ib]
  · rw [zI_d (by omega), zI_d (by omega), zI_d (by omega), zI_d (by omega), ib]
end SEM
