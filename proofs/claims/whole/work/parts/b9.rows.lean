/-! the calls that leave the house as it is -/
theorem Op0.A {n0 d dr : Nat} {xc xr : z_X} {As : List Value} {K : z_K} {I : z_I} {L : z_L} {P : z_K → z_I → z_L → Prop} (h : Op0 n0 xc xr d dr As K I L (P K)) : OpA n0 xc xr d dr 0 0 As K I L P := RM0.to h (fun _ _ _ h => h)
theorem OpL0.A {n0 d dr : Nat} {xc xr : z_X} {As : List Value} {K : z_K} {I : z_I} {L : z_L} {P : z_K → z_I → z_L → Prop} (h : OpL0 n0 xc xr d dr As K I L (P K)) : OpL n0 xc xr d dr 0 0 As K I L P := RM0.to h (fun _ _ _ h => h)
theorem OpA.U {n0 d dr mc ms : Nat} {xc xr : z_X} {As : List Value} {K : z_K} {I : z_I} {L : z_L} {P : z_K → z_I → z_L → Prop} (h : OpA n0 xc xr d dr mc ms As K I L P) (h1 : d ≤ 800) (h2 : dr ≤ 800) (h3 : mc ≤ 8) (h4 : ms ≤ 228) : OpU n0 xc xr As K I L P := ⟨d, dr, mc, ms, h1, h2, h3, h4, h⟩
theorem OpL.U {n0 d dr mc ms : Nat} {xc xr : z_X} {As : List Value} {K : z_K} {I : z_I} {L : z_L} {P : z_K → z_I → z_L → Prop} (h : OpL n0 xc xr d dr mc ms As K I L P) (h1 : d ≤ 800) (h2 : dr ≤ 800) (h3 : mc ≤ 8) (h4 : ms ≤ 228) : OpUL n0 xc xr As K I L P := ⟨d, dr, mc, ms, h1, h2, h3, h4, h⟩
theorem Op0.U {n0 d dr : Nat} {xc xr : z_X} {As : List Value} {K : z_K} {I : z_I} {L : z_L} {P : z_K → z_I → z_L → Prop} (h : Op0 n0 xc xr d dr As K I L (P K)) (h1 : d ≤ 800) (h2 : dr ≤ 800) : OpU n0 xc xr As K I L P := h.A.U h1 h2 (by omega) (by omega)
/-- the invariant, as a call's end has it -/
def Iv (c : Nat) (K : z_K) (I : z_I) (_L : z_L) : Prop := Inv c K I
section RDO
variable {n0 c : Nat} {K K' : z_K} {I I' : z_I} {L : z_L} {p0 p1 p2 p3 p4 : Int32}
theorem Inv.s0 (h : Inv c K I) : ∀ K' I' L', KD K K' → Fz (gX K) I I' → Iv (c + 1) K' I' L' := fun _ _ _ hk hf => (h.fX hk hf).mono (by omega)
theorem Inv.s1 (h : Inv c K I) : ∀ k, 1 ≤ k → k ≤ 7 → ∀ K' I' L', KD K K' → Fz (gX K) (rfI I k) I' → Iv (c + 1) K' I' L' := fun k _ _ _ _ _ hk hf => ((h.rf k).fX hk hf).mono (by omega)
theorem Inv.t0 (h : Inv c K I) : ∀ K' I' L', KD K K' → Fz (gS K) I I' → Iv (c + 1) K' I' L' := fun K' I' L' hk hf => h.s0 K' I' L' hk (hf.mono (fun _ _ z => gX_s z))
theorem Inv.t1 (h : Inv c K I) : ∀ k, 1 ≤ k → k ≤ 7 → ∀ K' I' L', KD K K' → Fz (gS K) (rfI I k) I' → Iv (c + 1) K' I' L' := fun k h1 h7 K' I' L' hk hf => h.s1 k h1 h7 K' I' L' hk (hf.mono (fun _ _ z => gX_s z))
theorem Inv.hr (h : Inv c K I) : ∀ k, 1 ≤ k → k ≤ 7 → Iv (c + 1) K (rfI I k) L := fun k _ _ => (h.rf k).mono (by omega)
theorem Inv.hs (h : Inv c K I) : Iv (c + 1) K I L := h.mono (by omega)
theorem rw_at (h : Inv c K I) : OpU n0 xX12_at xX13_at [.int p0, .int p1, .int p2, .int p3, .int p4] K I L (Iv (c + 1)) := by
  have h' := h
  obtain ⟨np, nb, pid, pts, bid, ⟨nr, na, t, rid, rp, rk, ln, cx, cy, m, par, X, Y, A, hW, hB, ht⟩, _⟩ := h
  exact (op_at (d := 0) hW h'.t0 h'.t1).U (by omega) (by omega) (by omega) (by omega)
theorem rw_on (h : Inv c K I) : OpU n0 xX12_on xX13_on [.int p0, .int p1, .int p2, .int p3] K I L (Iv (c + 1)) := by
  have h' := h
  obtain ⟨np, nb, pid, pts, bid, ⟨nr, na, t, rid, rp, rk, ln, cx, cy, m, par, X, Y, A, hW, hB, ht⟩, _⟩ := h
  exact (op_on (d := 0) hW h'.t0 h'.t1).U (by omega) (by omega) (by omega) (by omega)
theorem rw_length (h : Inv c K I) : OpU n0 xX12_length xX13_length [.int p0, .int p1, .int p2, .int p3, .int p4] K I L (Iv (c + 1)) := by
  have h' := h
  obtain ⟨np, nb, pid, pts, bid, ⟨nr, na, t, rid, rp, rk, ln, cx, cy, m, par, X, Y, A, hW, hB, ht⟩, _⟩ := h
  exact (op_length (d := 0) hW hB h'.t0 h'.t1).U (by omega) (by omega) (by omega) (by omega)
theorem rw_lengthOn (h : Inv c K I) : OpU n0 xX12_lengthOn xX13_lengthOn [.int p0, .int p1, .int p2, .int p3] K I L (Iv (c + 1)) := by
  have h' := h
  obtain ⟨np, nb, pid, pts, bid, ⟨nr, na, t, rid, rp, rk, ln, cx, cy, m, par, X, Y, A, hW, hB, ht⟩, _⟩ := h
  exact (op_lengthOn (d := 0) hW hB h'.t0 h'.t1).U (by omega) (by omega) (by omega) (by omega)
theorem rw_area (h : Inv c K I) : OpUL n0 xX12_area xX13_area [.int p0, .int p1, .int p2] K I L (Iv (c + 1)) := by
  have h' := h
  obtain ⟨np, nb, pid, pts, bid, ⟨nr, na, t, rid, rp, rk, ln, cx, cy, m, par, X, Y, A, hW, hB, ht⟩, _⟩ := h
  exact (op_area (d := 0) hW hB h'.t0 h'.t1).U (by omega) (by omega) (by omega) (by omega)
theorem rw_ease (h : Inv c K I) : OpU n0 xX12_ease xX13_ease [.int p0, .int p1, .int p2] K I L (Iv (c + 1)) := by
  have h' := h
  obtain ⟨np, nb, pid, pts, bid, ⟨nr, na, t, rid, rp, rk, ln, cx, cy, m, par, X, Y, A, hW, hB, ht⟩, ⟨ns, sid, s1, s2, sa, sb, sc, se, nc, b1, b2, b3, b4⟩, _⟩ := h
  exact (op_ease (d := 0) hW hB b1 b3 b2 h'.t0 h'.t1).U (by omega) (by omega) (by omega) (by omega)
theorem rw_meets (h : Inv c K I) : OpU n0 xX12_meets xX13_meets [.int p0, .int p1, .int p2] K I L (Iv (c + 1)) := by
  have h' := h
  obtain ⟨np, nb, pid, pts, bid, ⟨nr, na, t, rid, rp, rk, ln, cx, cy, m, par, X, Y, A, hW, hB, ht⟩, ⟨ns, sid, s1, s2, sa, sb, sc, se, nc, b1, b2, b3, b4⟩, _⟩ := h
  exact (op_meets (d := 0) hW hB b1 b3 b2 h'.t0 h'.t1).U (by omega) (by omega) (by omega) (by omega)
theorem rw_lost (h : Inv c K I) : OpU n0 xX12_lost xX13_lost [.int p0, .int p1, .int p2] K I L (Iv (c + 1)) := by
  have h' := h
  obtain ⟨np, nb, pid, pts, bid, ⟨nr, na, t, rid, rp, rk, ln, cx, cy, m, par, X, Y, A, hW, hB, ht⟩, ⟨ns, sid, s1, s2, sa, sb, sc, se, nc, b1, b2, b3, b4⟩, _⟩ := h
  exact (op_lost (d := 0) hW hB b1 b3 b4 b2 h'.t0 h'.t1).U (by omega) (by omega) (by omega) (by omega)
theorem rw_wrong (h : Inv c K I) : OpU n0 xX12_wrong xX13_wrong [.int p0] K I L (Iv (c + 1)) := by
  have h' := h
  obtain ⟨np, nb, pid, pts, bid, ⟨nr, na, t, rid, rp, rk, ln, cx, cy, m, par, X, Y, A, hW, hB, ht⟩, ⟨ns, sid, s1, s2, sa, sb, sc, se, nc, b1, b2, b3, b4⟩, _⟩ := h
  exact (op_wrong (d := 0) hW hB b1 b3 b4 b2 h'.t0 h'.t1).U (by omega) (by omega) (by omega) (by omega)
theorem rw_said (h : Inv c K I) : OpU n0 xX12_said xX13_said [.int p0, .int p1, .int p2, .int p3, .int p4] K I L (Iv (c + 1)) := by
  have h' := h
  obtain ⟨np, nb, pid, pts, bid, ⟨nr, na, t, rid, rp, rk, ln, cx, cy, m, par, X, Y, A, hW, hB, ht⟩, _, _, ⟨nt, tp, tb, ta, te, hT⟩, _⟩ := h
  exact (op_said (d := 0) hW hB hT h'.t0 h'.t1).U (by omega) (by omega) (by omega) (by omega)
theorem rw_firstWrong (h : Inv c K I) : OpU n0 xX12_firstWrong xX13_firstWrong [.int p0] K I L (Iv (c + 1)) := by
  have h' := h
  obtain ⟨np, nb, pid, pts, bid, ⟨nr, na, t, rid, rp, rk, ln, cx, cy, m, par, X, Y, A, hW, hB, ht⟩, _, ⟨ne, eid, lc, hp, wc, wi, hz, b1, b2, b3, b4, b5⟩, _⟩ := h
  exact (op_firstWrong (d := 0) hW hB b1 b4 b5 b2 b3 h'.t0 h'.t1).U (by omega) (by omega) (by omega) (by omega)
theorem rw_from (h : Inv c K I) : OpU n0 xX12_from xX13_from [.int p0, .int p1, .int p2] K I L (Iv (c + 1)) := by
  have h' := h
  obtain ⟨np, nb, pid, pts, bid, ⟨nr, na, t, rid, rp, rk, ln, cx, cy, m, par, X, Y, A, hW, hB, ht⟩, _⟩ := h
  exact (op_from (d := 0) hW h'.t0 h'.t1).U (by omega) (by omega) (by omega) (by omega)
theorem rw_cells (h : Inv c K I) : OpU n0 xX12_cells xX13_cells [.int p0, .int p1, .int p2] K I L (Iv (c + 1)) := by
  have h' := h
  obtain ⟨np, nb, pid, pts, bid, ⟨nr, na, t, rid, rp, rk, ln, cx, cy, m, par, X, Y, A, hW, hB, ht⟩, _, _, _, _, ⟨_, ⟨cw, ow, st, hcl⟩, _⟩, _⟩ := h
  exact (op_cells (d := 0) hW hB hcl.2.2.2 h'.s0 h'.t1).U (by omega) (by omega) (by omega) (by omega)
theorem rw_shortest (h : Inv c K I) : OpU n0 xX12_shortest xX13_shortest [.int p0] K I L (Iv (c + 1)) := by
  have h' := h
  obtain ⟨np, nb, pid, pts, bid, ⟨nr, na, t, rid, rp, rk, ln, cx, cy, m, par, X, Y, A, hW, hB, ht⟩, _, _, _, ⟨N, mp, ms, hMk⟩, ⟨_, ⟨cw, ow, st, hcl⟩, _⟩, _⟩ := h
  exact (op_shortest (d := 0) hW hB hMk hcl h'.s0 h'.s1).U (by omega) (by omega) (by omega) (by omega)
theorem rw_place (h : Inv c K I) : OpU n0 xX12_place xX13_place [.int p0, .int p1] K I L (Iv (c + 1)) := by
  have h' := h
  obtain ⟨np, nb, pid, pts, bid, ⟨nr, na, t, rid, rp, rk, ln, cx, cy, m, par, X, Y, A, hW, hB, ht⟩, _, _, _, ⟨N, mp, ms, hMk⟩, ⟨_, ⟨cw, ow, st, hcl⟩, _⟩, _⟩ := h
  exact (op_place (d := 0) hW hB hMk hcl h'.s0 h'.s1).U (by omega) (by omega) (by omega) (by omega)
theorem rw_season (h : Inv c K I) : OpU n0 xX12_season xX13_season [] K I L (Iv (c + 1)) := by
  have h' := h
  obtain ⟨hC, hM⟩ := h.lay
  obtain ⟨np, nb, pid, pts, bid, _, _, _, _, _, _, _, _, _, ⟨M, w, pn, o, hS⟩, _⟩ := h
  exact (op_season (d := 0) (P := Iv (c + 1) K) hC hM hS (fun I' L' f => h'.s0 K I' L' KD.rf f)).U (by omega) (by omega)
theorem rw_often (h : Inv c K I) : OpU n0 xX12_often xX13_often [.int p0] K I L (Iv (c + 1)) := by
  have h' := h
  obtain ⟨hC, hM⟩ := h.lay
  obtain ⟨np, nb, pid, pts, bid, _, _, _, _, _, _, _, _, _, ⟨M, w, pn, o, hS⟩, _⟩ := h
  exact (op_often (d := 0) (P := Iv (c + 1) K) hC hM hS (fun I' L' f => h'.s0 K I' L' KD.rf f) h'.hr).U (by omega) (by omega)
theorem rw_least (h : Inv c K I) : OpUL n0 xX12_least xX13_least [.int p0, .int p1] K I L (Iv (c + 1)) := by
  have h' := h
  obtain ⟨hC, hM⟩ := h.lay
  obtain ⟨np, nb, pid, pts, bid, _, _, _, _, _, _, _, _, ⟨nc, hK⟩, _⟩ := h
  exact (OpL0.A (P := Iv (c + 1)) (op_least (d := 0) (P := Iv (c + 1) K) hC hM hK (fun L' => h'.hs (L := L')) (fun k h1 h7 L' => h'.hr (L := L') k h1 h7))).U (by omega) (by omega) (by omega) (by omega)
theorem rw_quarrel (h : Inv c K I) : OpU n0 xX12_quarrel xX13_quarrel [.int p0, .int p1, .int p2] K I L (Iv (c + 1)) := by
  have h' := h
  obtain ⟨np, nb, pid, pts, bid, ⟨nr, na, t, rid, rp, rk, ln, cx, cy, m, par, X, Y, A, hW, hB, ht⟩, _⟩ := h
  exact (op_quarrel (d := 0) (P := Iv (c + 1) K) hW.1 hW.2.1 hW.2.2.2.1 hW.2.2.2.2.1 hW.2.2.2.2.2.2.1 h'.hr h'.hs).U (by omega) (by omega)
theorem rw_fault (h : Inv c K I) : OpU n0 xX12_fault xX13_fault [.int p0] K I L (Iv (c + 1)) := by
  have h' := h
  obtain ⟨np, nb, pid, pts, bid, ⟨nr, na, t, rid, rp, rk, ln, cx, cy, m, par, X, Y, A, hW, hB, ht⟩, _, ⟨ne, eid, lc, hp, wc, wi, hz, b1, b2, b3, b4, b5⟩, _⟩ := h
  exact (op_fault (d := 0) (P := Iv (c + 1) K) hW.1 hW.2.1 hW.2.2.2.1 hW.2.2.2.2.1 hW.2.2.2.2.2.1 b1 b2 b3 b4 h'.hr h'.hs).U (by omega) (by omega)
theorem rw_tabled (h : Inv c K I) : OpU n0 xX12_tabled xX13_tabled [.int p0, .int p1, .int p2] K I L (Iv (c + 1)) := by
  have h' := h
  obtain ⟨np, nb, pid, pts, bid, ⟨nr, na, t, rid, rp, rk, ln, cx, cy, m, par, X, Y, A, ⟨g1, g2, g3, g4, g5, g6, g7, g8, g9, g10, g11, g12, g13, g14, g15, g16, g17⟩, hB, ht⟩, _⟩ := h
  exact (op_tabled (d := 0) (P := Iv (c + 1) K) g1 g2 g14 g15 g16 h'.hr h'.hs).U (by omega) (by omega)
theorem rw_measured (h : Inv c K I) : OpU n0 xX12_measured xX13_measured [.int p0, .int p1] K I L (Iv (c + 1)) := by
  have h' := h
  obtain ⟨np, nb, pid, pts, bid, ⟨nr, na, t, rid, rp, rk, ln, cx, cy, m, par, X, Y, A, ⟨g1, g2, g3, g4, g5, g6, g7, g8, g9, g10, g11, g12, g13, g14, g15, g16, g17⟩, hB, ht⟩, _⟩ := h
  exact (op_measured (d := 0) (P := Iv (c + 1) K) g1 g2 g10 g11 g14 g15 g16 g13 (fun i j hi hj => (g17 i hi).2.2 j hj) (fun i hi => ⟨(g17 i hi).1, (g17 i hi).2.1⟩) h'.hr h'.hs).U (by omega) (by omega)
theorem rw_cut (h : Inv c K I) : OpU n0 xX12_cut xX13_cut [.int p0, .int p1, .int p2] K I L (Iv (c + 1)) := by
  have h' := h
  obtain ⟨hC, hM⟩ := h.lay
  obtain ⟨np, nb, pid, pts, bid, _, _, _, _, _, ⟨e1, _, e3⟩, _⟩ := h
  exact (op_cut (d := 0) (P := Iv (c + 1) K) hC hM e1 (fun i a b => ⟨(e3 i a b).1, by have := (e3 i a b).2; omega⟩) h'.hr h'.hs).U (by omega) (by omega)
theorem rw_count (h : Inv c K I) : OpU n0 xX12_count xX13_count [.int p0] K I L (Iv (c + 1)) := by
  have h' := h
  obtain ⟨np, nb, pid, pts, bid, ⟨nr, na, t, rid, rp, rk, ln, cx, cy, m, par, X, Y, A, ⟨g1, g2, g3, g4, g5, g6, g7, g8, g9, g10, g11, g12, g13, g14, g15, g16, g17⟩, hB, ht⟩, ⟨ns, sid, s1, s2, sa, sb, sc, se, nc, b1, b2, b3, b4⟩, ⟨ne, eid, lc, hp, wc, wi, hz, e1, e2, e3, e4, e5⟩, ⟨nt, tp, tb, ta, te, hT⟩, ⟨N, mp, ms, hMk⟩, _, _, ⟨n, hX⟩, ⟨nk, hK⟩, _, _, _, hR⟩ := h
  exact (op_count (d := 0) (P := Iv (c + 1) K) g1 g2 g13 (g11.1.trans g11.2.symm) (g5.1.trans g5.2.1.symm) (g7.2.1.trans g7.2.2.1.symm) (b2.1.trans b2.2.symm) (hK.2.1.trans hK.2.2.1.symm) (hMk.2.1.trans hMk.2.2.1.symm) (hT.2.1.trans hT.2.2.1.symm) (e2.trans e3.symm) (hX.1.trans hX.2.1.symm) hR h'.hs).U (by omega) (by omega)
end RDO
