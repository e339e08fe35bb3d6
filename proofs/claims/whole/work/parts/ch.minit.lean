/-! the reference's constructor, in one piece -/
abbrev ctL : Type := List (Nat × Nat × Nat)
def mF0 : ctL := [(2, 20, 2100), (3, 20, 2100), (4, 20, 2100), (5, 20, 2100), (7, 20, 12), (8, 20, 96), (10, 20, 16), (11, 20, 16), (12, 20, 16), (13, 21, 16), (14, 20, 160), (15, 20, 160), (16, 21, 160), (17, 20, 160), (18, 20, 160), (19, 20, 8)]
def mF1 : ctL := [(20, 20, 60), (23, 20, 7200), (24, 20, 120), (25, 20, 120), (26, 20, 120), (27, 20, 120), (35, 20, 10), (36, 20, 10), (37, 20, 8), (40, 22, 70), (42, 20, 70), (48, 20, 160), (50, 20, 40), (51, 20, 40), (52, 20, 40), (53, 20, 40)]
def mF2 : ctL := [(54, 20, 10), (55, 20, 10), (57, 20, 16), (58, 20, 81), (59, 20, 81), (60, 20, 11), (63, 20, 20), (64, 20, 20), (65, 20, 20), (66, 20, 20), (67, 20, 20), (68, 20, 20), (69, 20, 20), (70, 20, 20), (71, 20, 20), (72, 20, 20)]
def mF3 : ctL := [(73, 20, 120), (74, 20, 120), (78, 20, 12), (79, 20, 2), (80, 22, 6)]
def mF4 : ctL := [(83, 20, 24), (86, 20, 162), (87, 20, 162), (90, 20, 4), (91, 20, 4), (92, 20, 96), (93, 20, 4), (94, 20, 4), (95, 20, 4), (96, 20, 96)]
def mF5 : ctL := [(97, 20, 4), (98, 20, 4), (99, 20, 4), (100, 20, 4), (101, 20, 4), (102, 20, 4), (103, 20, 192), (104, 20, 4), (105, 20, 12), (108, 20, 30), (109, 20, 30), (110, 20, 30), (111, 20, 30), (112, 20, 30), (113, 20, 30), (115, 20, 12)]
def mF6 : ctL := [(116, 20, 12), (117, 20, 96), (118, 20, 96), (119, 20, 12), (120, 20, 144), (121, 20, 144), (122, 20, 144), (123, 20, 5), (125, 20, 6), (126, 20, 6), (127, 20, 6), (128, 20, 6)]
def mS3 (S : ctT) : ctT := mF3.foldl (ctA 59) (mF2.foldl (ctA 59) (mF1.foldl (ctA 59) (mF0.foldl (ctA 59) S)))
def mS (S : ctT) : ctT := mF6.foldl (ctA 59) (mF5.foldl (ctA 59) (mF4.foldl (ctA 59) (ctC 59 (mS3 S) 82)))
theorem ct_keep {o c : Nat} : ∀ (fs : ctL) (S : ctT), o < S.1.1 → (S.1.2.1 o).1 = c → o < (fs.foldl (ctA o) S).1.1 ∧ ((fs.foldl (ctA o) S).1.2.1 o).1 = c := by
  intro fs
  induction fs with
  | nil => intro S h1 h2; exact ⟨h1, h2⟩
  | cons f fs ih =>
    intro S h1 h2
    refine ih (ctA o S f) (Nat.lt_succ_of_lt h1) ?_
    show ((zN S.1 f.2.1 f.2.2).2.1 o).1 = c
    simp [zN, Nat.ne_of_lt h1, h2]
set_option maxRecDepth 100000 in
theorem m13_0 {n0 d : Nat} {S : ctT} {Q : z_R} (ho : 59 < S.1.1) (hc : (S.1.2.1 59).1 = 13) (h : Z n0 xX13_init (d + 1) 76 10564 141 [(0, .ref (n0 + 59))] [] (mF0.foldl (ctA 59) S).1 (mF0.foldl (ctA 59) S).2.1 (mF0.foldl (ctA 59) S).2.2 Q) : RM n0 xX13_init (d + 1) 92 19944 [.ref (n0 + 59)] S.1 S.2.1 S.2.2 Q := ct_X13_init_0 (o := 59) ho hc h
set_option maxRecDepth 100000 in
theorem m13_1 {n0 d : Nat} {S : ctT} {Q : z_R} (ho : 59 < S.1.1) (hc : (S.1.2.1 59).1 = 13) (h : Z n0 xX13_init (d + 1) 60 2336 271 [(0, .ref (n0 + 59))] [] (mF1.foldl (ctA 59) S).1 (mF1.foldl (ctA 59) S).2.1 (mF1.foldl (ctA 59) S).2.2 Q) : Z n0 xX13_init (d + 1) 76 10564 141 [(0, .ref (n0 + 59))] [] S.1 S.2.1 S.2.2 Q := ct_X13_init_1 (o := 59) ho hc h
set_option maxRecDepth 100000 in
theorem m13_2 {n0 d : Nat} {S : ctT} {Q : z_R} (ho : 59 < S.1.1) (hc : (S.1.2.1 59).1 = 13) (h : Z n0 xX13_init (d + 1) 44 1927 399 [(0, .ref (n0 + 59))] [] (mF2.foldl (ctA 59) S).1 (mF2.foldl (ctA 59) S).2.1 (mF2.foldl (ctA 59) S).2.2 Q) : Z n0 xX13_init (d + 1) 60 2336 271 [(0, .ref (n0 + 59))] [] S.1 S.2.1 S.2.2 Q := ct_X13_init_2 (o := 59) ho hc h
set_option maxRecDepth 100000 in
theorem m13_3 {n0 d : Nat} {S : ctT} {Q : z_R} (ho : 59 < S.1.1) (hc : (S.1.2.1 59).1 = 13) (h : Z n0 xX13_init (d + 1) 39 1667 438 [(0, .ref (n0 + 59))] [] (mF3.foldl (ctA 59) S).1 (mF3.foldl (ctA 59) S).2.1 (mF3.foldl (ctA 59) S).2.2 Q) : Z n0 xX13_init (d + 1) 44 1927 399 [(0, .ref (n0 + 59))] [] S.1 S.2.1 S.2.2 Q := ct_X13_init_3 (o := 59) ho hc h
set_option maxRecDepth 100000 in
theorem m13_4 {n0 d : Nat} {S : ctT} {Q : z_R} (ho : 59 < S.1.1) (hc : (S.1.2.1 59).1 = 13) (h : Z n0 xX13_init (d + 1) 28 1101 549 [(0, .ref (n0 + 59))] [] (mF4.foldl (ctA 59) (ctC 59 S 82)).1 (mF4.foldl (ctA 59) (ctC 59 S 82)).2.1 (mF4.foldl (ctA 59) (ctC 59 S 82)).2.2 Q) : Z n0 xX13_init (d + 1) 39 1667 438 [(0, .ref (n0 + 59))] [] S.1 S.2.1 S.2.2 Q := ct_X13_init_4 (o := 59) ho hc h
set_option maxRecDepth 100000 in
theorem m13_5 {n0 d : Nat} {S : ctT} {Q : z_R} (ho : 59 < S.1.1) (hc : (S.1.2.1 59).1 = 13) (h : Z n0 xX13_init (d + 1) 12 677 671 [(0, .ref (n0 + 59))] [] (mF5.foldl (ctA 59) S).1 (mF5.foldl (ctA 59) S).2.1 (mF5.foldl (ctA 59) S).2.2 Q) : Z n0 xX13_init (d + 1) 28 1101 549 [(0, .ref (n0 + 59))] [] S.1 S.2.1 S.2.2 Q := ct_X13_init_5 (o := 59) ho hc h
set_option maxRecDepth 100000 in
theorem m13_6 {n0 d : Nat} {S : ctT} {Q : z_R} (ho : 59 < S.1.1) (hc : (S.1.2.1 59).1 = 13) (h : Q none (mF6.foldl (ctA 59) S).1 (mF6.foldl (ctA 59) S).2.1 (mF6.foldl (ctA 59) S).2.2) : Z n0 xX13_init (d + 1) 12 677 671 [(0, .ref (n0 + 59))] [] S.1 S.2.1 S.2.2 Q := ct_X13_init_6 (o := 59) ho hc h
theorem c13_init {n0 d : Nat} {K : z_K} {I : z_I} {L : z_L} {Q : z_R} (ho : 59 < K.1) (hc : (K.2.1 59).1 = 13) (h : Q none (mS (K, I, L)).1 (mS (K, I, L)).2.1 (mS (K, I, L)).2.2) : RM n0 xX13_init (d + 1) 92 19944 [.ref (n0 + 59)] K I L Q := by
  have k0 := ct_keep mF0 (K, I, L) ho hc
  have k1 := ct_keep mF1 _ k0.1 k0.2
  have k2 := ct_keep mF2 _ k1.1 k1.2
  have k3 := ct_keep mF3 _ k2.1 k2.2
  have kc : 59 < (ctC 59 (mS3 (K, I, L)) 82).1.1 ∧ ((ctC 59 (mS3 (K, I, L)) 82).1.2.1 59).1 = 13 := by
    refine ⟨Nat.lt_succ_of_lt k3.1, ?_⟩
    show ((zN (mS3 (K, I, L)).1 20 6).2.1 59).1 = 13
    have e1 : 59 < (mS3 (K, I, L)).1.1 := k3.1
    have e2 : ((mS3 (K, I, L)).1.2.1 59).1 = 13 := k3.2
    simp [zN, Nat.ne_of_lt e1, e2]
  have k4 := ct_keep mF4 _ kc.1 kc.2
  have k5 := ct_keep mF5 _ k4.1 k4.2
  exact m13_0 (S := (K, I, L)) ho hc (m13_1 k0.1 k0.2 (m13_2 k1.1 k1.2 (m13_3 k2.1 k2.2 (m13_4 k3.1 k3.2 (m13_5 k4.1 k4.2 (m13_6 k5.1 k5.2 h))))))
