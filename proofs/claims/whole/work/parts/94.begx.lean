/-! BEGIN: the class's machine as a run begins -/
def z0 (G : PG) : CSt := ((0, []), (0, -1, [], pDm G 0), (dat G, 0, List.replicate 100 (vof 9 0)), ([], [], 0, 0, 0, 0))
theorem dat_len {G : PG} : (dat G).length = pDz G := by unfold dat; rw [List.length_map, List.length_range]
theorem rt_h : (∀ e, e ∈ RTl → e.2 = 49 → e.1 = (48, 0)) ∧ (∀ e, e ∈ RTl → e.2 = 53 → e.1 = (47, 3)) := by decide +kernel
section BGX
variable {h h' : Hp} {Q : Option Value → Hp → Prop} {d : Nat} {G : PG} {p : Nat}
theorem sk_vr {a b r : Nat} (hv : isVr a b = true) (s : Sk h) : Sk (pR h a b (some r)) := by
  refine ⟨s.1, fun x y c => ?_, s.2.2⟩
  refine (up2_ne (fun e => ?_)).trans (s.2.1 x y c)
  rw [e.1, e.2, hv] at c
  cases c
theorem vy_vr {a b r : Nat} (hr : r = 1 ∨ r = 18 ∨ r = 19 ∨ r = 29 ∨ r = 66 ∨ r = 86) (v : Vy h) : Vy (pR h a b (some r)) := by
  intro x y c
  by_cases e : x = a ∧ y = b
  · obtain ⟨rfl, rfl⟩ := e
    exact ⟨r, up2_eq, hr⟩
  · obtain ⟨r', e1, e2⟩ := v x y c
    exact ⟨r', (up2_ne e).trans e1, e2⟩
theorem px_k (s : Sk h) (hp : p = 19 ∨ p = 29) : hK h p = 7 ∧ hK h (p + 3) = 15 ∧ hR h p 3 = some (p + 3) := by
  rcases hp with rfl | rfl
  · exact ⟨s.1 _ (by decide), s.1 _ (by decide), s.2.1 19 3 rfl⟩
  · exact ⟨s.1 _ (by decide), s.1 _ (by decide), s.2.1 29 3 rfl⟩
theorem sp_hbeg (S : SX G p h) (hd : 5 < d) (hq : ∀ h', SX G p h' → hI h' 48 1 = nI (pDz G) → hI h' 48 2 = 0 → pDz G ≤ hN h' 49 → (∀ i, i < pDz G → hB h' 49 i = vof (G.1 3 i) (G.1 4 i)) → Q none h') : aEv d 34 [.ref 48, .ref p] h Q := by
  have s := S.1
  have P := S.2.2.2.1
  obtain ⟨kp, k22, r3⟩ := px_k s P.1
  have e4 : hI h p 4 = nI (pDz G) := P.2.2.2.2.2.2.2.2.2.2.1
  have dz : pDz G ≤ 12402 := P.2.2.2.2.2.2.2.2.2.2.2.2.1
  have hp3 : pDz G ≤ hN h (p + 3) := P.2.2.2.2.2.2.2.2.2.2.2.1
  have hdat := P.2.2.2.2.2.2.2.2.2.2.2.2.2.2
  have rm := S.2.2.1
  have h16 := rm.2.2 49 (by decide)
  have c49 : cpR 49 = 300000 := rfl
  have h0 : 0 < d := by omega
  have hpn : p + 3 ≠ 49 := by rcases P.1 with e | e <;> omega
  have lL : ∀ z ∈ [((0 : Nat), Value.ref 48), (1, Value.ref p)], ∀ q, z.2 = .ref q → q ≠ 49 ∧ q < 130 := fun z hz q e => by
    simp only [List.mem_cons, List.not_mem_nil, or_false] at hz
    rcases hz with rfl | rfl
    · injection e with e
      subst e
      exact ⟨by decide, by decide⟩
    · injection e with e
      subst e
      rcases P.1 with e | e <;> rw [e] <;> exact ⟨by decide, by decide⟩
  obtain ⟨g1, g2⟩ := gro_J s (a := 49) (by decide) (pDz G)
  have gb := g1.2.2.2.2.2.2.2.2
  have hbd : hN (rmJ h 49 (pDz G)) 49 ≤ cpR 49 := by
    rw [(rmJ_r h 49 (pDz G) (by have := s.2.2; omega)).2.2.2.2.2.2.2.2.1]
    split <;> omega
  have S1 : SX G p (rmJ h 49 (pDz G)) := sx_gro g1 S (by decide) (by decide) hbd
  have s1 := S1.1
  have P1 := S1.2.2.2.1
  obtain ⟨kp1, k221, r31⟩ := px_k s1 P1.1
  have e41 : hI (rmJ h 49 (pDz G)) p 4 = nI (pDz G) := P1.2.2.2.2.2.2.2.2.2.2.1
  have hp31 : pDz G ≤ hN (rmJ h 49 (pDz G)) (p + 3) := P1.2.2.2.2.2.2.2.2.2.2.2.1
  have hdat1 := P1.2.2.2.2.2.2.2.2.2.2.2.2.2.2
  have n49 : pDz G ≤ hN (rmJ h 49 (pDz G)) 49 := g1.2.2.2.2.2.1
  have k49 : hK (rmJ h 49 (pDz G)) 49 = 15 := s1.1 49 (by decide)
  have hz0 : (0 : Int32).toInt = 0 := rfl
  have hzn : (nI (pDz G)).toInt = (pDz G : Int) := nI_toInt (by omega)
  unfold aEv
  simp only [lv_args, z_v, z_lg, z_h, z_u, z_u1, z_c, z_ct, z_sk, sbne, lst1_d, ldel, lst2_d, ldel2, z_sw, z_rok, zi, eq_self, List.map_cons, List.map_nil, List.append_nil, List.nil_append, List.cons_append, Int32.reduceLT, Int32.reduceLE, Int32.reduceAdd, Int32.reduceSub, Int32.reduceMul, Int32.reduceToInt, Int32.reduceToNatClampNeg, Int.reduceLT, Int.reduceLE, Int.reduceNeg, true_and, and_true, or_self, or_false, false_or, false_and, and_false, true_or, or_true, if_true, if_false, ne_eq, Classical.not_not, not_true_eq_false, not_false_eq_true, true_implies, false_implies, implies_true, Nat.reduceEqDiff, Nat.reduceAdd, Nat.reduceLeDiff, Nat.reduceSub, reduceCtorEq, reduceIte, b34_0, skX s, srX s, kp, e4]
  refine grw_J (st := []) mm_34 dX2_begin_9 ml_2_21 dX2_begin_12 fl_2_9 rfl (by unfold finOK; decide +kernel) (by omega) s S.2.1 S.2.2.1 (s.1 48 (by decide)) (by decide) (s.2.1 48 0 rfl) (s.1 49 (by decide)) (by decide) (by decide) rt_h.1 lL (by omega) (by omega) ?_
  generalize rmJ h 49 (pDz G) = H at *
  simp only [lv_args, z_v, z_lg, z_h, z_u, z_u1, z_c, z_ct, z_sk, sbne, lst1_d, ldel, lst2_d, ldel2, z_sw, z_rok, zi, eq_self, List.map_cons, List.map_nil, List.append_nil, List.nil_append, List.cons_append, Int32.reduceLT, Int32.reduceLE, Int32.reduceAdd, Int32.reduceSub, Int32.reduceMul, Int32.reduceToInt, Int32.reduceToNatClampNeg, Int.reduceLT, Int.reduceLE, Int.reduceNeg, true_and, and_true, or_self, or_false, false_or, false_and, and_false, true_or, or_true, if_true, if_false, ne_eq, Classical.not_not, not_true_eq_false, not_false_eq_true, true_implies, false_implies, implies_true, Nat.reduceEqDiff, Nat.reduceAdd, Nat.reduceLeDiff, Nat.reduceSub, reduceCtorEq, reduceIte, b34_15.1, b34_15.2.1, b34_15.2.2.1, b34_15.2.2.2.1, b34_15.2.2.2.2.1, b34_15.2.2.2.2.2.1, b34_15.2.2.2.2.2.2.1, b34_15.2.2.2.2.2.2.2.1, skX s1, srX s1, kp1, r31, e41]
  refine (b34_15.2.2.2.2.2.2.2.2.1 d _ _ H Q (nI (pDz G)) 0 0 (p + 3) 49 15 k221 k49 (Or.inr rfl) hpn).mpr ⟨⟨h0, by rw [hz0]; omega, by rw [hz0]; omega, by rw [hzn]; omega, by rw [hz0, hzn]; omega, by rw [hz0, hzn]; omega, by decide⟩, ?_⟩
  rw [if_neg (by decide)]
  have c0 : (0 : Int32).toNatClampNeg = 0 := rfl
  have cn : (nI (pDz G)).toNatClampNeg = pDz G := by rw [nI_cl (by omega)]
  rw [c0, cn]
  have S2 : SX G p (pI (pI (pB H 49 (va_cpy (hB H (p + 3)) (hB H 49) 0 0 (pDz G))) 48 1 (nI (pDz G))) 48 2 0) := sx_I (by decide) (sx_I (by decide) (sx_B S1))
  have fin := hq _ S2 rfl rfl n49 (fun i hi => by
    have e : hB (pI (pI (pB H 49 (va_cpy (hB H (p + 3)) (hB H 49) 0 0 (pDz G))) 48 1 (nI (pDz G))) 48 2 0) 49 = va_cpy (hB H (p + 3)) (hB H 49) 0 0 (pDz G) := (up1_eq : va_up (hB H) 49 _ 49 = _)
    rw [e]
    unfold va_cpy
    rw [if_pos (by omega), Nat.sub_zero, Nat.zero_add]
    exact hdat1 i hi)
  have kp2 : hK (pB H 49 (va_cpy (hB H (p + 3)) (hB H 49) 0 0 (pDz G))) p = 7 := kp1
  have s2 : Sk (pB H 49 (va_cpy (hB H (p + 3)) (hB H 49) 0 0 (pDz G))) := (sk_same rfl rfl rfl : Sk _ = Sk H) ▸ s1
  simp only [lv_args, z_v, z_lg, z_h, z_u, z_u1, z_c, z_ct, z_sk, sbne, lst1_d, ldel, lst2_d, ldel2, z_sw, z_rok, zi, eq_self, List.map_cons, List.map_nil, List.append_nil, List.nil_append, List.cons_append, Int32.reduceLT, Int32.reduceLE, Int32.reduceAdd, Int32.reduceSub, Int32.reduceMul, Int32.reduceToInt, Int32.reduceToNatClampNeg, Int.reduceLT, Int.reduceLE, Int.reduceNeg, true_and, and_true, or_self, or_false, false_or, false_and, and_false, true_or, or_true, if_true, if_false, ne_eq, Classical.not_not, not_true_eq_false, not_false_eq_true, true_implies, false_implies, implies_true, Nat.reduceEqDiff, Nat.reduceAdd, Nat.reduceLeDiff, Nat.reduceSub, reduceCtorEq, reduceIte, b34_15.2.2.2.2.2.2.2.2.2, skX s1, kp1, e41]
  exact fin
theorem sp_beg46 {r0 : Nat} (s : Sk h) (vy : Vy h) (rm : Rm h) (P : PX G p h) (hz : pCz G < 1000000) (hW : WG G) (h47 : hR h 47 2 = some r0) (hr0 : r0 = 19 ∨ r0 = 29) (hd : 10 < d) (hq : ∀ h', SX G p h' → RWn (z0 G) h' → hI h' 47 13 = -1 → RXp [] [] h' → Q none h') : aEv d 46 [.ref 47, .ref p] h Q := by
  have h0 : 0 < d := by omega
  have hp := P.1
  have hp130 : p < SB := by have sb : SB = 1000000 := rfl; omega
  have S1 : SX G p (pR h 47 2 (some p)) := ⟨sk_vr rfl s, vy_vr (by omega) vy, rm_same rfl rfl rfl rm, px_same rfl (fun _ _ => ⟨rfl, rfl, rfl⟩) P, (up2_eq : up2 (hR h) 47 2 (some p) 47 2 = some p), hz⟩
  have hsw : ¬ swOK h [(0, .ref 47), (1, .ref p)] [] 47 2 r0 p := fun c => by
    have c3 := c.2.2.1
    have kr : hK h r0 = 7 := by rcases hr0 with rfl | rfl <;> exact s.1 _ (by decide)
    omega
  unfold aEv
  simp only [lv_args, z_v, z_lg, z_h, z_u, z_u1, z_c, z_ct, z_sk, sbne, lst1_d, ldel, lst2_d, ldel2, z_sw, z_rok, zi, eq_self, List.map_cons, List.map_nil, List.append_nil, List.nil_append, List.cons_append, Int32.reduceLT, Int32.reduceLE, Int32.reduceAdd, Int32.reduceSub, Int32.reduceMul, Int32.reduceToInt, Int32.reduceToNatClampNeg, Int.reduceLT, Int.reduceLE, Int.reduceNeg, true_and, and_true, or_self, or_false, false_or, false_and, and_false, true_or, or_true, if_true, if_false, ne_eq, Classical.not_not, not_true_eq_false, not_false_eq_true, true_implies, false_implies, implies_true, Nat.reduceEqDiff, Nat.reduceAdd, Nat.reduceLeDiff, Nat.reduceSub, reduceCtorEq, reduceIte, b46_0.1, b46_0.2.1]
  refine (k_putO (st := []) mm_46 dX3_begin_2 fl_3_46 rfl (by unfold finOK; decide +kernel) h47 hsw).mpr ⟨⟨s.1 47 (by decide), hp130⟩, ?_⟩
  generalize pR h 47 2 (some p) = h1 at *
  have s1 := S1.1
  obtain ⟨kp1, _, _⟩ := px_k s1 S1.2.2.2.1.1
  simp only [lv_args, z_v, z_lg, z_h, z_u, z_u1, z_c, z_ct, z_sk, sbne, lst1_d, ldel, lst2_d, ldel2, z_sw, z_rok, zi, eq_self, List.map_cons, List.map_nil, List.append_nil, List.nil_append, List.cons_append, Int32.reduceLT, Int32.reduceLE, Int32.reduceAdd, Int32.reduceSub, Int32.reduceMul, Int32.reduceToInt, Int32.reduceToNatClampNeg, Int.reduceLT, Int.reduceLE, Int.reduceNeg, true_and, and_true, or_self, or_false, false_or, false_and, and_false, true_or, or_true, if_true, if_false, ne_eq, Classical.not_not, not_true_eq_false, not_false_eq_true, true_implies, false_implies, implies_true, Nat.reduceEqDiff, Nat.reduceAdd, Nat.reduceLeDiff, Nat.reduceSub, reduceCtorEq, reduceIte, b46_0.2.2.2, skX s1, srX s1, h0]
  refine sp_hbeg S1 (by omega) (fun h2 S2 i1 i2 n49 b49 => ?_)
  have s2 := S2.1
  have P2 := S2.2.2.2.1
  obtain ⟨kp2, _, _⟩ := px_k s2 P2.1
  have e14 : hI h2 p 14 = nI (pDm G 0) := P2.2.2.2.2.2.2.2.2.1
  have dm : pDm G 0 ≤ 300 := (hW.2.2.2.2.2.1 0 (Nat.zero_le _)).1
  simp only [lv_args, z_v, z_lg, z_h, z_u, z_u1, z_c, z_ct, z_sk, sbne, lst1_d, ldel, lst2_d, ldel2, z_sw, z_rok, zi, eq_self, List.map_cons, List.map_nil, List.append_nil, List.nil_append, List.cons_append, Int32.reduceLT, Int32.reduceLE, Int32.reduceAdd, Int32.reduceSub, Int32.reduceMul, Int32.reduceToInt, Int32.reduceToNatClampNeg, Int.reduceLT, Int.reduceLE, Int.reduceNeg, true_and, and_true, or_self, or_false, false_or, false_and, and_false, true_or, or_true, if_true, if_false, ne_eq, Classical.not_not, not_true_eq_false, not_false_eq_true, true_implies, false_implies, implies_true, Nat.reduceEqDiff, Nat.reduceAdd, Nat.reduceLeDiff, Nat.reduceSub, reduceCtorEq, reduceIte, b46_0.2.2.2, skX s1, skX s2, srX s2, h0, kp1, Nat.reduceLT, e88_50 _ _ s2, kp2, e14]
  have S3 : SX G p (pI (pI (pI h2 50 1 0) 50 2 0) 50 4 0) := sx_I (by decide) (sx_I (by decide) (sx_I (by decide) S2))
  have s3 := S3.1
  have lL : ∀ z ∈ [((0 : Nat), Value.ref 47), (1, Value.ref p)], ∀ q, z.2 = .ref q → q ≠ 53 ∧ q < 130 := fun z hz q e => by
    simp only [List.mem_cons, List.not_mem_nil, or_false] at hz
    rcases hz with rfl | rfl
    · injection e with e
      subst e
      exact ⟨by decide, by decide⟩
    · injection e with e
      subst e
      rcases P2.1 with e | e <;> rw [e] <;> exact ⟨by decide, by decide⟩
  have h16 := S3.2.2.1.2.2 53 (by decide)
  have c53 : cpR 53 = 620000 := rfl
  have p1 : hI (pI (pI (pI h2 50 1 0) 50 2 0) 50 4 0) 50 1 = 0 := rfl
  have p2 : hI (pI (pI (pI h2 50 1 0) 50 2 0) 50 4 0) 50 2 = 0 := rfl
  have p4 : hI (pI (pI (pI h2 50 1 0) 50 2 0) 50 4 0) 50 4 = 0 := rfl
  have i1' : hI (pI (pI (pI h2 50 1 0) 50 2 0) 50 4 0) 48 1 = nI (pDz G) := i1
  have i2' : hI (pI (pI (pI h2 50 1 0) 50 2 0) 50 4 0) 48 2 = 0 := i2
  have n49' : pDz G ≤ hN (pI (pI (pI h2 50 1 0) 50 2 0) 50 4 0) 49 := n49
  have b49' : ∀ i, i < pDz G → hB (pI (pI (pI h2 50 1 0) 50 2 0) 50 4 0) 49 i = vof (G.1 3 i) (G.1 4 i) := b49
  generalize pI (pI (pI h2 50 1 0) 50 2 0) 50 4 0 = h3 at *
  show aWP d 46 29 [(0, .ref 47), (1, .ref p)] [.int (nI (pDm G 0)), .ref 53, .ref 47] h3 Q
  refine grw_J (st := []) mm_46 dX3_begin_29 ml_3_62 dX3_begin_32 fl_3_25 rfl (by unfold finOK; decide +kernel) (by omega) s3 S3.2.1 S3.2.2.1 (s3.1 47 (by decide)) (by decide) (s3.2.1 47 3 rfl) (s3.1 53 (by decide)) (by decide) (by decide) rt_h.2 lL (by omega) (by omega) ?_
  obtain ⟨g1, g2⟩ := gro_J s3 (a := 53) (by decide) (pDm G 0)
  have gb := g1.2.2.2.2.2.2.2.2
  have hbd : hN (rmJ h3 53 (pDm G 0)) 53 ≤ cpR 53 := by
    rw [(rmJ_r h3 53 (pDm G 0) (by have := s3.2.2; omega)).2.2.2.2.2.2.2.2.1]
    split <;> omega
  have S4 : SX G p (rmJ h3 53 (pDm G 0)) := sx_gro g1 S3 (by decide) (by decide) hbd
  have s4 := S4.1
  have n53 : pDm G 0 ≤ hN (rmJ h3 53 (pDm G 0)) 53 := g1.2.2.2.2.2.1
  have q49 := g1.2.2.2.2.1 49 (by decide) (by decide)
  have gI := g1.2.1
  have j1 : hI (rmJ h3 53 (pDm G 0)) 50 1 = 0 := by rw [gI]; exact p1
  have j2 : hI (rmJ h3 53 (pDm G 0)) 50 2 = 0 := by rw [gI]; exact p2
  have j4 : hI (rmJ h3 53 (pDm G 0)) 50 4 = 0 := by rw [gI]; exact p4
  have k1 : hI (rmJ h3 53 (pDm G 0)) 48 1 = nI (pDz G) := by rw [gI]; exact i1'
  have k2 : hI (rmJ h3 53 (pDm G 0)) 48 2 = 0 := by rw [gI]; exact i2'
  have m49 : pDz G ≤ hN (rmJ h3 53 (pDm G 0)) 49 := by rw [q49.2.2]; exact n49'
  have d49 : ∀ i, i < pDz G → hB (rmJ h3 53 (pDm G 0)) 49 i = vof (G.1 3 i) (G.1 4 i) := by rw [q49.2.1]; exact b49'
  have x53 := S4.2.2.1.2.2 53 (by decide)
  have x49 := S4.2.2.1.2.2 49 (by decide)
  have x54 := S4.2.2.1.2.2 54 (by decide)
  have x55 := S4.2.2.1.2.2 55 (by decide)
  have x56 := S4.2.2.1.2.2 56 (by decide)
  have x52 := S4.2.2.1.2.2 52 (by decide)
  have y49 : cpR 49 = 300000 := rfl
  have y54 : cpR 54 = 3100 := rfl
  have y55 : cpR 55 = 3100 := rfl
  have y56 : cpR 56 = 3100 := rfl
  have y52 : cpR 52 = 3100 := rfl
  have n57 : hN (rmJ h3 53 (pDm G 0)) 57 = 100 := S4.2.2.1.1.2 (57, 100) (by decide)
  have n51 : hN (rmJ h3 53 (pDm G 0)) 51 = 200 := S4.2.2.1.1.2 (51, 200) (by decide)
  generalize rmJ h3 53 (pDm G 0) = H at *
  simp only [lv_args, z_v, z_lg, z_h, z_u, z_u1, z_c, z_ct, z_sk, sbne, lst1_d, ldel, lst2_d, ldel2, z_sw, z_rok, zi, eq_self, List.map_cons, List.map_nil, List.append_nil, List.nil_append, List.cons_append, Int32.reduceLT, Int32.reduceLE, Int32.reduceAdd, Int32.reduceSub, Int32.reduceMul, Int32.reduceToInt, Int32.reduceToNatClampNeg, Int.reduceLT, Int.reduceLE, Int.reduceNeg, true_and, and_true, or_self, or_false, false_or, false_and, and_false, true_or, or_true, if_true, if_false, ne_eq, Classical.not_not, not_true_eq_false, not_false_eq_true, true_implies, false_implies, implies_true, Nat.reduceEqDiff, Nat.reduceAdd, Nat.reduceLeDiff, Nat.reduceSub, reduceCtorEq, reduceIte, b46_35, skX s4, srX s4, h0, e157v]
  refine sp_fillL (n := 100) (s4.1 57 (by decide)) n57 (by decide) ?_
  have s5 : Sk (pB (pI (pI (pI (pI (pI H 47 4 0) 47 5 0) 47 6 (-1)) 47 7 0) 47 8 0) 57 (filL (hB H 57) 100 (vof 9 0))) := (sk_same rfl rfl rfl : Sk _ = Sk H) ▸ s4
  obtain ⟨kp4, _, _⟩ := px_k s4 S4.2.2.2.1.1
  simp only [lv_args, z_v, z_lg, z_h, z_u, z_u1, z_c, z_ct, z_sk, sbne, lst1_d, ldel, lst2_d, ldel2, z_sw, z_rok, zi, eq_self, List.map_cons, List.map_nil, List.append_nil, List.nil_append, List.cons_append, Int32.reduceLT, Int32.reduceLE, Int32.reduceAdd, Int32.reduceSub, Int32.reduceMul, Int32.reduceToInt, Int32.reduceToNatClampNeg, Int.reduceLT, Int.reduceLE, Int.reduceNeg, true_and, and_true, or_self, or_false, false_or, false_and, and_false, true_or, or_true, if_true, if_false, ne_eq, Classical.not_not, not_true_eq_false, not_false_eq_true, true_implies, false_implies, implies_true, Nat.reduceEqDiff, Nat.reduceAdd, Nat.reduceLeDiff, Nat.reduceSub, reduceCtorEq, reduceIte, b46_35, skX s4, skX s5, h0, kp4, Nat.reduceLT]
  refine hq _ ?_ ?_ rfl ?_
  · exact sx_I (by decide) (sx_L (sx_I (by decide) (sx_I (by decide) (sx_B (sx_I (by decide) (sx_I (by decide) (sx_I (by decide) (sx_I (by decide) (sx_I (by decide) S4)))))))))
  · refine ⟨⟨rfl, Nat.zero_le _, n53, ?_, fun i x e => by cases e⟩, ⟨rfl, rfl, rfl, rfl, show 0 < 1000000 by decide, show 0 < 1000000 by decide, show 0 ≤ 1000 by decide, ⟨Nat.zero_le _, Nat.zero_le _, Nat.zero_le _⟩, ⟨?_, ?_, ?_⟩, fun j b e => by cases e⟩, ⟨?_, ?_, ?_, fun i x e => ?_, k2, show 0 ≤ 40000 by decide, n57, ?_, fun i x e => ?_⟩, rfl, rfl, rfl⟩
    · show hN H 53 < 1000000; omega
    · show hN H 54 < 1000000; omega
    · show hN H 55 < 1000000; omega
    · show hN H 56 < 1000000; omega
    · show hI H 48 1 = nI (dat G).length
      rw [dat_len]; exact k1
    · show (dat G).length ≤ hN H 49
      rw [dat_len]; exact m49
    · show hN H 49 < 1000000; omega
    · have hi := g_lt e
      have hi : i < (dat G).length := hi
      rw [dat_len] at hi
      have e : (dat G)[i]? = some x := e
      unfold dat at e
      rw [List.getElem?_map, List.getElem?_range hi] at e
      injection e with e
      exact (d49 i hi).trans e
    · exact List.length_replicate
    · have hi := g_lt e
      have e : (List.replicate 100 (vof 9 0))[i]? = some x := e
      have hx := List.eq_of_mem_replicate (List.mem_of_getElem? e)
      have hi : i < (List.replicate 100 (vof 9 0)).length := hi
      rw [List.length_replicate] at hi
      subst hx
      exact if_pos hi
  · refine ⟨n51, ⟨0, by decide, j1, j2, by decide, fun j x e => by cases e⟩, j4, by decide, Nat.zero_le _, ?_, fun j x e => by cases e⟩
    show hN H 52 < 1000000; omega
end BGX
