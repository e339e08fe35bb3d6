section ZJ
variable {n0 d rc rs pc : Nat} {X : z_X} {lv lv' : List (Nat × Value)} {st : List Value} {K : z_K} {I : z_I} {L : z_L} {Q : z_R}
theorem z_entryF {mc ms : Nat} {As : List Value} (hp : plainFor X.1 = true) (hlen : (lg_sl As).length ≤ X.2.2.1) (h : Z n0 X d mc ms 0 (lv_args 0 As) [] K I L Q) : RM n0 X d mc ms As K I L Q := by
  intro l G
  refine MetFree.of_bodySF (code := X.2.1) (maxLocals := X.2.2.1) (ret := X.2.2.2) hp ?_ ?_
  · intro args s m h hn
    obtain ⟨meth, c, h1, h2, h3, h4, h5, h6, -, -⟩ := Cond.code_spec hn (atoms_spec (ws := z_cw X :: lw_good) h _ List.mem_cons_self)
    exact ⟨meth, c, h1, h2, h3, h4, h5, h6⟩
  · intro p e s m args below meth c s₁ B hml hP _
    have hh0 : s₁.heap = s.heap := by rw [B.state]; rfl
    obtain ⟨rfl, hH, hK, hSt⟩ := hP
    have hl := lv_entry As (n := X.2.2.1) hlen
    have body := h p l e _ s m _ below meth c G mc ms s.heap [] 0 0 _ ⟨B.exec, B.bytes, hml, B.returns, B.notSynchronized, findClass_of_methodNamed B.named, atoms_spec (ws := z_cw X :: lw_good) B.pre, hK, hSt, rfl, (name_of_methodNamed B.named B.method).1⟩ hH va_S.rf hl (by omega) (by omega)
    rw [← lg_entry_eq] at body
    obtain ⟨t, a1, o, b1, b2, b3⟩ := body s₁ hh0 (Stand.of_body B)
    exact ⟨t, o, a1, b1, b2, ⟨b3.1, b3.2⟩⟩
theorem z_entryF0 {As : List Value} {q : z_q} (hp : plainFor X.1 = true) (hlen : (lg_sl As).length ≤ X.2.2.1) (h : Z n0 X d 0 0 0 (lv_args 0 As) [] K I L (z_q0 K q)) : RM0 n0 X d As K I L q := z_entryF hp hlen h
end ZJ
theorem dJ9_floorDiv_7cf53_0 : decode cJ9_floorDiv_7cf53 0 = .ok (.iload_n 0, 1) := by decide +kernel
theorem dJ9_floorDiv_7cf53_1 : decode cJ9_floorDiv_7cf53 1 = .ok (.iload_n 1, 1) := by decide +kernel
theorem dJ9_floorDiv_7cf53_2 : decode cJ9_floorDiv_7cf53 2 = .ok (.idiv, 1) := by decide +kernel
theorem dJ9_floorDiv_7cf53_3 : decode cJ9_floorDiv_7cf53 3 = .ok (.istore_n 2, 1) := by decide +kernel
theorem dJ9_floorDiv_7cf53_4 : decode cJ9_floorDiv_7cf53 4 = .ok (.iload_n 0, 1) := by decide +kernel
theorem dJ9_floorDiv_7cf53_5 : decode cJ9_floorDiv_7cf53 5 = .ok (.iload_n 1, 1) := by decide +kernel
theorem dJ9_floorDiv_7cf53_6 : decode cJ9_floorDiv_7cf53 6 = .ok (.ixor, 1) := by decide +kernel
theorem dJ9_floorDiv_7cf53_7 : decode cJ9_floorDiv_7cf53 7 = .ok (.ifCond .ge 14, 3) := by decide +kernel
theorem dJ9_floorDiv_7cf53_10 : decode cJ9_floorDiv_7cf53 10 = .ok (.iload_n 2, 1) := by decide +kernel
theorem dJ9_floorDiv_7cf53_11 : decode cJ9_floorDiv_7cf53 11 = .ok (.iload_n 1, 1) := by decide +kernel
theorem dJ9_floorDiv_7cf53_12 : decode cJ9_floorDiv_7cf53 12 = .ok (.imul, 1) := by decide +kernel
theorem dJ9_floorDiv_7cf53_13 : decode cJ9_floorDiv_7cf53 13 = .ok (.iload_n 0, 1) := by decide +kernel
theorem dJ9_floorDiv_7cf53_14 : decode cJ9_floorDiv_7cf53 14 = .ok (.if_icmp .eq 7, 3) := by decide +kernel
theorem dJ9_floorDiv_7cf53_17 : decode cJ9_floorDiv_7cf53 17 = .ok (.iload_n 2, 1) := by decide +kernel
theorem dJ9_floorDiv_7cf53_18 : decode cJ9_floorDiv_7cf53 18 = .ok (.iconst 1, 1) := by decide +kernel
theorem dJ9_floorDiv_7cf53_19 : decode cJ9_floorDiv_7cf53 19 = .ok (.isub, 1) := by decide +kernel
theorem dJ9_floorDiv_7cf53_20 : decode cJ9_floorDiv_7cf53 20 = .ok (.ireturn, 1) := by decide +kernel
theorem dJ9_floorDiv_7cf53_21 : decode cJ9_floorDiv_7cf53 21 = .ok (.iload_n 2, 1) := by decide +kernel
theorem dJ9_floorDiv_7cf53_22 : decode cJ9_floorDiv_7cf53 22 = .ok (.ireturn, 1) := by decide +kernel
set_option maxRecDepth 100000 in
set_option maxHeartbeats 4000000 in
theorem wp_J9_floorDiv_7cf53 {n0 d : Nat} {K : z_K} {I : z_I} {L : z_L} {Q : z_q} {p0 : Int32} {p1 : Int32} (h : ¬ (p1 : Int32) = 0 ∧ (if ((p0 ^^^ p1) : Int32) < 0 then (if (((p0 / p1) * p1) : Int32) = p0 then Q (some (.int (p0 / p1))) I L else Q (some (.int ((p0 / p1) - 1))) I L) else Q (some (.int (p0 / p1))) I L)) : RM0 n0 xJ9_floorDiv_7cf53 d [.int p0, .int p1] K I L Q := by
  refine z_entryF0 (by decide +kernel) (Nat.le_of_ble_eq_true rfl) ?_
  change Z n0 xJ9_floorDiv_7cf53 d 0 0 0 [(0, .int p0), (1, .int p1)] [] K I L (z_q0 K Q)
  refine z_iload_n 0 dJ9_floorDiv_7cf53_0 rfl ?_
  refine z_iload_n 1 dJ9_floorDiv_7cf53_1 rfl ?_
  obtain ⟨o1, h⟩ := h
  refine z_idiv dJ9_floorDiv_7cf53_2 o1 ?_
  refine z_istore_n [1, 2, 0] [(0, .int p0), (1, .int p1), (2, .int (p0 / p1))] dJ9_floorDiv_7cf53_3 (by decide) rfl ?_
  refine z_iload_n 0 dJ9_floorDiv_7cf53_4 rfl ?_
  refine z_iload_n 1 dJ9_floorDiv_7cf53_5 rfl ?_
  refine z_ixor dJ9_floorDiv_7cf53_6 ?_
  refine z_if_ge 21 dJ9_floorDiv_7cf53_7 (by decide) (fun g2 => ?_) (fun g2 => ?_)
  · rw [if_neg g2] at h
    refine z_iload_n 2 dJ9_floorDiv_7cf53_21 rfl ?_
    exact z_iret dJ9_floorDiv_7cf53_22 rfl ⟨rfl, h⟩
  · rw [if_pos g2] at h
    refine z_iload_n 2 dJ9_floorDiv_7cf53_10 rfl ?_
    refine z_iload_n 1 dJ9_floorDiv_7cf53_11 rfl ?_
    refine z_imul dJ9_floorDiv_7cf53_12 ?_
    refine z_iload_n 0 dJ9_floorDiv_7cf53_13 rfl ?_
    refine z_icmp_eq 21 dJ9_floorDiv_7cf53_14 (by decide) (fun g3 => ?_) (fun g3 => ?_)
    · rw [if_pos g3] at h
      refine z_iload_n 2 dJ9_floorDiv_7cf53_21 rfl ?_
      exact z_iret dJ9_floorDiv_7cf53_22 rfl ⟨rfl, h⟩
    · rw [if_neg g3] at h
      refine z_iload_n 2 dJ9_floorDiv_7cf53_17 rfl ?_
      refine z_iconst 1 dJ9_floorDiv_7cf53_18 (by decide) ?_
      refine z_isub dJ9_floorDiv_7cf53_19 ?_
      exact z_iret dJ9_floorDiv_7cf53_20 rfl ⟨rfl, h⟩
