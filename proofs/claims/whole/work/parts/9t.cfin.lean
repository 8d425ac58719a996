/-! BUILD. compile, whole -/
section CFI
variable {h h' h0 : Hp} {Q : Option Value → Hp → Prop} {d p c1 c2 n g b : Nat} {N : NS} {mt : List Nat} {K : List KY} {nw : Nat → Int32}
/-- the program as the heap holds it at the end -/
theorem px_of (hp : p = 19 ∨ p = 29) (hBk : BK1 N mt nw) (hn : rFl (cAll N mt) = none) (H : CH N K p c1 c2 h0 [] (cAll N mt) h) (G : gd c1 c2 (cAll N mt)) (y1 : c1 ≤ 15100) (y2 : c2 ≤ 24100) (e13 : hI h p 13 = nI (pts N 0).length) (e14 : hI h p 14 = nI (rDx (cAll N mt))) (e15 : hI h p 15 = nI (gdf N).length) : PX (gOf N mt nw) p h := by
  obtain ⟨z, ez, _, b1, b2, b3, b4, b5, b6, b7, b8, b9, b10, b11, ⟨b12, b13, _⟩, _⟩ := all_bnd hBk hn
  have dt : rDt (cAll N mt) = rDt z := by rw [ez]; rfl
  have lm : rLm (cAll N mt) = rLm z := by rw [ez]; rfl
  obtain ⟨⟨⟨cb, kx⟩, ⟨n1, n3⟩, da, ft, sc, ⟨pb1, pb2, ⟨pb3, pb4, _⟩, s0, pb5, pb6, pb7⟩, gx⟩, fm⟩ := H
  obtain ⟨g1, g2, g3, g4, g5, g6, g7, g8, g9, g11, g10⟩ := gx G
  have n12 : hN h (p + 2) = c1 := by
    have := cb.2.2.2.1.2
    rcases hp with rfl | rfl
    · exact this.1.symm.trans n1
    · exact this.2.symm.trans n1
  have es : s0 = (rSr (cAll N mt)).length := nI_inj (by simp only [List.length_nil] at pb6; omega) (by omega) (pb5.symm.trans g9)
  refine ⟨hp, g4, by rw [n1]; exact G.2.1, by rw [n12]; exact G.2.1, fun i hi => ?_, ?_, fun j j1 j2 => ?_, fun M M1 M2 => ?_, ?_, e15, g6, by rw [n3]; exact G.2.2, ?_, e13, fun i hi => ?_⟩
  · have hi : i < (rCd (cAll N mt)).length := hi
    exact g5 i _ (gdD hi)
  · show hI h p 12 = nI (mLa (mAll N))
    rw [pb3, lm, b7]
  · have key : ∀ j, 4 ≤ j → j ≤ 8 → (19 + j, 120) ∈ LNl ∧ (29 + j, 120) ∈ LNl := by
      intro j h1 h2
      have : j = 4 ∨ j = 5 ∨ j = 6 ∨ j = 7 ∨ j = 8 := by omega
      rcases this with rfl | rfl | rfl | rfl | rfl <;> exact ⟨by decide, by decide⟩
    rcases hp with rfl | rfl
    · exact cb.2.2.1.2 _ (key j j1 j2).1
    · exact cb.2.2.1.2 _ (key j j1 j2).2
  · have M2 : M ≤ mLa (mAll N) := M2
    have hM : M - 1 < (rLm (cAll N mt)).length := by rw [lm, b7]; omega
    have hg := gdD (x := ((0, 0, 0, 0, []) : LMe)) hM
    obtain ⟨u1, u2⟩ := g8 (M - 1) _ hg
    obtain ⟨u3, u4, u5, u6⟩ := u2 (by simp)
    have ls := ls_all (N := N) (mt := mt) (M - 1) _ hg
    have fr : pFr (gOf N mt nw) M = (lmD N mt M).2.2.2.2.length := fr_of M1
    have dm : pDm (gOf N mt nw) M = (lmD N mt M).2.2.1 := dm_of M1
    refine ⟨u3, u1, by rw [dm]; exact u4, u5, by rw [fr]; exact u6, (rSr (cAll N mt)).length, g9, ?_, by rw [← es]; exact pb7, by omega, fun k hk => ?_⟩
    · rw [fr]; exact ls
    · rw [fr] at hk
      have hk2 : pKs (gOf N mt nw) M + k < (rSr (cAll N mt)).length := Nat.lt_of_lt_of_le (Nat.add_lt_add_left hk _) ls
      exact g10 _ _ (gdD hk2)
  · exact e14
  · show (rDt (cAll N mt)).length ≤ 12402
    rw [dt]; omega
  · have hi : i < (rDt (cAll N mt)).length := hi
    have hg := gdD (x := ((0, none) : DTe)) hi
    generalize hx : (rDt (cAll N mt)).getD i (0, none) = e at hg
    obtain ⟨m, ov⟩ := e
    obtain ⟨k, c, e0⟩ := b13.2.2.1 i m ov (by rw [← dt]; exact hg) (fun f => f)
    subst e0
    have dv : dtV N mt i = vof k c := by
      unfold dtV
      rw [hx]
      rfl
    show hB h (p + 3) i = vof (vkd (dtV N mt i)) (dtV N mt i).toInt32
    rw [dv, vof_kd, vof_lo]
    exact g7 i m _ hg
theorem sp_sforget (s : Sk h) (n45 : hN h 45 = 32) (hd : 0 < d) (hq : Q none (pA (pI (pI h 40 3 0) 40 4 0) 45 (filI (hA h 45) 32 0))) : aEv d 145 [.ref 40] h Q := by
  unfold aEv
  simp only [lv_args, z_v, z_lg, z_h, z_u, z_u1, z_c, z_ct, z_sk, sbne, lst1_d, ldel, lst2_d, ldel2, z_sw, z_rok, zi, eq_self, List.map_cons, List.map_nil, List.append_nil, List.nil_append, List.cons_append, Int32.reduceLT, Int32.reduceLE, Int32.reduceAdd, Int32.reduceSub, Int32.reduceMul, Int32.reduceToInt, Int32.reduceToNatClampNeg, Int.reduceLT, Int.reduceLE, Int.reduceNeg, true_and, and_true, or_self, or_false, false_or, false_and, and_false, true_or, or_true, if_true, if_false, ne_eq, Classical.not_not, not_true_eq_false, not_false_eq_true, true_implies, false_implies, implies_true, Nat.reduceEqDiff, Nat.reduceAdd, Nat.reduceLeDiff, Nat.reduceSub, reduceCtorEq, reduceIte, b145_0, skX s, srX s, hd]
  refine sp_fillI (n := 32) (h := pI (pI h 40 3 0) 40 4 0) (s.1 45 (by decide)) n45 (by decide) ?_
  have s1 : Sk (pA (pI (pI h 40 3 0) 40 4 0) 45 (filI (hA h 45) 32 0)) := sk_u3 (sk_u1 (sk_u1 s))
  simp only [lv_args, z_v, z_lg, z_h, z_u, z_u1, z_c, z_ct, z_sk, sbne, lst1_d, ldel, lst2_d, ldel2, z_sw, z_rok, zi, eq_self, List.map_cons, List.map_nil, List.append_nil, List.nil_append, List.cons_append, Int32.reduceLT, Int32.reduceLE, Int32.reduceAdd, Int32.reduceSub, Int32.reduceMul, Int32.reduceToInt, Int32.reduceToNatClampNeg, Int.reduceLT, Int.reduceLE, Int.reduceNeg, true_and, and_true, or_self, or_false, false_or, false_and, and_false, true_or, or_true, if_true, if_false, ne_eq, Classical.not_not, not_true_eq_false, not_false_eq_true, true_implies, false_implies, implies_true, Nat.reduceEqDiff, Nat.reduceAdd, Nat.reduceLeDiff, Nat.reduceSub, reduceCtorEq, reduceIte, b145_0, skX s, skX s1, Nat.reduceLT]
  exact hq
theorem gdf_len : ∀ (l df : List Nat), (l.foldl (gdF N) df).length ≤ df.length + l.length
  | [], df => Nat.le_refl _
  | c :: l, df => by
    rw [List.foldl_cons]
    have h1 := gdf_len l (gdF N df c)
    have h2 : (gdF N df c).length ≤ df.length + 1 := by
      unfold gdF
      split
      · rw [List.length_append]; exact Nat.le_refl _
      · exact Nat.le_succ _
    rw [List.length_cons]
    omega
theorem sp_compile {q0 : Nat} (c : CB h) (hp : p = 19 ∨ p = 29) (R0 : hR h 39 3 = some q0) (hq0 : q0 = 19 ∨ q0 = 29) (r : RD N h) (nt : NT K mt h) (hK8 : K.length ≤ hN h 8) (h30 : 30 ≤ K.length) (hKl : K.length ≤ 1532) (hBk : BK1 N mt nw) (ht : Tr (g + 1) N 0 N.1) (hg : g ≤ 31) (h6 : nK N 0 = 6) (hlf : ∀ i, 1 ≤ i → i < N.1 → nK N i ≠ 6 → nF N i = -1) (hnP : ∀ i, 1 ≤ i → i < N.1 → nP N i = nI (nQ N i)) (hN1 : N.1 ≤ 6001) (h20 : hI h 2 0 = 0) (hd : 300 < d)
    (hq : ∀ h', CB h' → hR h' 39 3 = some p → (∀ a b, ¬ (a = 39 ∧ b = 3) → hR h' a b = hR h a b) → (∀ a, ¬ XP p a → hI h' a = hI h a ∧ hL h' a = hL h a ∧ hA h' a = hA h a ∧ hB h' a = hB h a ∧ hN h' a = hN h a) → FTx (rFl (cAll N mt)) h h' → (rFl (cAll N mt) = none → PX (gOf N mt nw) p h') → Q none h') : aEv d 7 [.ref 39, .ref p] h Q := by
  have h00 : 0 < d := by omega
  have nk := hBk.1
  have hNm := nk.2.2
  obtain ⟨t1, t2, hn0⟩ := tl_n ht h6 (Nat.le_refl _) hNm
  have hlen := tl_len t2
  have s := c.1
  have z0 : (0 : Int32) = nI 0 := rfl
  have z10 : ¬ (1 : Int32) = 0 := by decide
  have eb0 : bI false = 0 := rfl
  have hp130 : p < SB := by have sb : SB = 1000000 := rfl; omega
  have hsw : ¬ swOK h [(0, .ref 39), (1, .ref p)] [] 39 3 q0 p := fun w => by
    have c3 := w.2.2.1
    have kr : hK h q0 = 7 := by rcases hq0 with rfl | rfl <;> exact s.1 _ (by decide)
    omega
  have C1 : CB (pR h 39 3 (some p)) := ⟨sk_vr rfl s, vy_vr (by omega) c.2.1, rm_same rfl rfl rfl c.2.2⟩
  unfold aEv
  simp only [lv_args, z_v, z_lg, z_h, z_u, z_u1, z_c, z_ct, z_sk, sbne, lst1_d, ldel, lst2_d, ldel2, z_sw, z_rok, zi, eq_self, List.map_cons, List.map_nil, List.append_nil, List.nil_append, List.cons_append, Int32.reduceLT, Int32.reduceLE, Int32.reduceAdd, Int32.reduceSub, Int32.reduceMul, Int32.reduceToInt, Int32.reduceToNatClampNeg, Int.reduceLT, Int.reduceLE, Int.reduceNeg, true_and, and_true, or_self, or_false, false_or, false_and, and_false, true_or, or_true, if_true, if_false, ne_eq, Classical.not_not, not_true_eq_false, not_false_eq_true, true_implies, false_implies, implies_true, Nat.reduceEqDiff, Nat.reduceAdd, Nat.reduceLeDiff, Nat.reduceSub, reduceCtorEq, reduceIte, b7_0.1, b7_0.2.1]
  refine (k_putO (st := []) mm_7 dX0_compile_2 fl_0_30 rfl (by unfold finOK; decide +kernel) R0 hsw).mpr ⟨⟨s.1 39 (by decide), hp130⟩, ?_⟩
  have R1 : hR (pR h 39 3 (some p)) 39 3 = some p := (up2_eq : up2 (hR h) 39 3 (some p) 39 3 = some p)
  have Ro : ∀ a b, ¬ (a = 39 ∧ b = 3) → hR (pR h 39 3 (some p)) a b = hR h a b := fun a b w => up2_ne w
  have i1 : hI (pR h 39 3 (some p)) = hI h := rfl
  have a1 : hA (pR h 39 3 (some p)) = hA h := rfl
  have b1 : hB (pR h 39 3 (some p)) = hB h := rfl
  have n1 : hN (pR h 39 3 (some p)) = hN h := rfl
  have l1 : hL (pR h 39 3 (some p)) = hL h := rfl
  generalize pR h 39 3 (some p) = h1 at *
  have s1 := C1.1
  have kp : ∀ {h : Hp}, Sk h → hK h p = 7 := fun {h} s => by rcases hp with rfl | rfl <;> exact s.1 _ (by decide)
  have e37 : hI h1 3 7 = nI N.1 := by rw [i1]; exact r.1.1
  simp only [lv_args, z_v, z_lg, z_h, z_u, z_u1, z_c, z_ct, z_sk, sbne, lst1_d, ldel, lst2_d, ldel2, z_sw, z_rok, zi, eq_self, List.map_cons, List.map_nil, List.append_nil, List.nil_append, List.cons_append, Int32.reduceLT, Int32.reduceLE, Int32.reduceAdd, Int32.reduceSub, Int32.reduceMul, Int32.reduceToInt, Int32.reduceToNatClampNeg, Int.reduceLT, Int.reduceLE, Int.reduceNeg, true_and, and_true, or_self, or_false, false_or, false_and, and_false, true_or, or_true, if_true, if_false, ne_eq, Classical.not_not, not_true_eq_false, not_false_eq_true, true_implies, false_implies, implies_true, Nat.reduceEqDiff, Nat.reduceAdd, Nat.reduceLeDiff, Nat.reduceSub, reduceCtorEq, reduceIte, b7_0.2.2.2, skX s1, srX s1, h00, R1, kp s1, e133_3 _ _ s1, e37, Nat.reduceLT]
  refine sp_pbegin (k := N.1) C1 hp ⟨by omega, hN1⟩ (by omega) (fun h2 C2 m1 m3 ze R2 L2 I2 A2 => ?_)
  have s2 := C2.1
  have n45 : hN h2 45 = 32 := C2.2.2.1.2 (45, 32) (by decide)
  simp only [lv_args, z_v, z_lg, z_h, z_u, z_u1, z_c, z_ct, z_sk, sbne, lst1_d, ldel, lst2_d, ldel2, z_sw, z_rok, zi, eq_self, List.map_cons, List.map_nil, List.append_nil, List.nil_append, List.cons_append, Int32.reduceLT, Int32.reduceLE, Int32.reduceAdd, Int32.reduceSub, Int32.reduceMul, Int32.reduceToInt, Int32.reduceToNatClampNeg, Int.reduceLT, Int.reduceLE, Int.reduceNeg, true_and, and_true, or_self, or_false, false_or, false_and, and_false, true_or, or_true, if_true, if_false, ne_eq, Classical.not_not, not_true_eq_false, not_false_eq_true, true_implies, false_implies, implies_true, Nat.reduceEqDiff, Nat.reduceAdd, Nat.reduceLeDiff, Nat.reduceSub, reduceCtorEq, reduceIte, b7_0.2.2.2, skX s1, skX s2, srX s2, h00, kp s1, kp s2, Nat.reduceLT]
  refine sp_sforget s2 n45 (by omega) ?_
  have C3 : CB (pI (pI (pI (pA (pI (pI h2 40 3 0) 40 4 0) 45 (filI (hA h2 45) 32 0)) 39 5 0) 39 6 0) 39 7 0) := cb_i (cb_i (cb_i (cb_a (cb_i (cb_i C2)))))
  have sM : Sk (pA (pI (pI h2 40 3 0) 40 4 0) 45 (filI (hA h2 45) 32 0)) := sk_u3 (sk_u1 (sk_u1 s2))
  have s3 := C3.1
  have r2 : RD N h2 := by
    have A := fun a (ha : a = 10 ∨ a = 11 ∨ a = 12 ∨ a = 13 ∨ a = 14) => A2 a (by omega) (by omega) (by omega) (by omega)
    unfold RD RNs at r ⊢
    rw [I2 3 7 (by omega), (A 10 (by omega)).1, (A 11 (by omega)).1, (A 12 (by omega)).1, (A 13 (by omega)).1, (A 14 (by omega)).1, (A 10 (by omega)).2.2, (A 11 (by omega)).2.2, (A 12 (by omega)).2.2, (A 13 (by omega)).2.2, (A 14 (by omega)).2.2, i1, a1, n1]
    exact r
  have r3 : RD N (pI (pI (pI (pA (pI (pI h2 40 3 0) 40 4 0) 45 (filI (hA h2 45) 32 0)) 39 5 0) 39 6 0) 39 7 0) := r2
  have R3 : hR (pI (pI (pI (pA (pI (pI h2 40 3 0) 40 4 0) 45 (filI (hA h2 45) 32 0)) 39 5 0) 39 6 0) 39 7 0) 39 3 = some p := by
    show hR h2 39 3 = some p
    rw [R2]; exact R1
  have e45 : hI (pI (pI (pI (pA (pI (pI h2 40 3 0) 40 4 0) 45 (filI (hA h2 45) 32 0)) 39 5 0) 39 6 0) 39 7 0) 4 5 = nI K.length := by
    show hI h2 4 5 = nI K.length
    rw [I2 4 5 (by omega), i1]; exact nt.1.1
  have e15 : hI (pI (pI (pI (pA (pI (pI h2 40 3 0) 40 4 0) 45 (filI (hA h2 45) 32 0)) 39 5 0) 39 6 0) 39 7 0) p 15 = 0 := by
    rcases hp with rfl | rfl <;> exact ze.2.2.2.2
  simp only [lv_args, z_v, z_lg, z_h, z_u, z_u1, z_c, z_ct, z_sk, sbne, lst1_d, ldel, lst2_d, ldel2, z_sw, z_rok, zi, eq_self, List.map_cons, List.map_nil, List.append_nil, List.nil_append, List.cons_append, Int32.reduceLT, Int32.reduceLE, Int32.reduceAdd, Int32.reduceSub, Int32.reduceMul, Int32.reduceToInt, Int32.reduceToNatClampNeg, Int.reduceLT, Int.reduceLE, Int.reduceNeg, true_and, and_true, or_self, or_false, false_or, false_and, and_false, true_or, or_true, if_true, if_false, ne_eq, Classical.not_not, not_true_eq_false, not_false_eq_true, true_implies, false_implies, implies_true, Nat.reduceEqDiff, Nat.reduceAdd, Nat.reduceLeDiff, Nat.reduceSub, reduceCtorEq, reduceIte, b7_0.2.2.2, skX s2, skX sM, skX s3, srX s2, h00, kp s2, kp s3, Nat.reduceLT]
  refine sp_gather (g := g) C3 hp R3 r3 nk nt.2.2.2.2.2.1.2.2 e45 hKl ht h6 hlf e15 (by omega) (fun h4 C4 F4 D4 => ?_)
  have s4 := C4.1
  have r4 := rd_frd F4 hp r3
  have R4 : hR h4 39 3 = some p := by rw [F4.1]; exact R3
  simp only [lv_args, z_v, z_lg, z_h, z_u, z_u1, z_c, z_ct, z_sk, sbne, lst1_d, ldel, lst2_d, ldel2, z_sw, z_rok, zi, eq_self, List.map_cons, List.map_nil, List.append_nil, List.nil_append, List.cons_append, Int32.reduceLT, Int32.reduceLE, Int32.reduceAdd, Int32.reduceSub, Int32.reduceMul, Int32.reduceToInt, Int32.reduceToNatClampNeg, Int.reduceLT, Int.reduceLE, Int.reduceNeg, true_and, and_true, or_self, or_false, false_or, false_and, and_false, true_or, or_true, if_true, if_false, ne_eq, Classical.not_not, not_true_eq_false, not_false_eq_true, true_implies, false_implies, implies_true, Nat.reduceEqDiff, Nat.reduceAdd, Nat.reduceLeDiff, Nat.reduceSub, reduceCtorEq, reduceIte, b7_0.2.2.2, skX s3, skX s4, srX s4, h00, kp s3, kp s4, R4, z0, rd_m s4 r4 hn0 ht (by omega) (by omega : 0 < d - 1), Nat.reduceLT]
  refine ⟨Or.inr ⟨Or.inl (by rw [s2.1 39 (by decide)]; decide), Or.inl (by rw [kp s2]; decide)⟩, ?_⟩
  have C5 : CB (pI h4 p 13 (nI (pts N 0).length)) := cb_i C4
  have r5 : RD N (pI h4 p 13 (nI (pts N 0).length)) := by rcases hp with rfl | rfl <;> exact r4
  have R5 : hR (pI h4 p 13 (nI (pts N 0).length)) 39 3 = some p := R4
  have e13 : hI (pI h4 p 13 (nI (pts N 0).length)) p 13 = nI (pts N 0).length := (up2_eq : up2 (hI h4) p 13 _ p 13 = _)
  have nt5 : NT K mt (pI h4 p 13 (nI (pts N 0).length)) := by
    have nt2 : NT K mt h2 := by
      have A := fun a (ha : 4 ≤ a ∧ a ≤ 9) => A2 a (by omega) (by omega) (by omega) (by omega)
      unfold NT at nt ⊢
      rw [I2 4 5 (by omega), I2 4 6 (by omega), (A 5 (by omega)).2.1, (A 6 (by omega)).2.1, (A 7 (by omega)).1, (A 8 (by omega)).1, (A 9 (by omega)).1, (A 9 (by omega)).2.2, i1, a1, b1, n1]
      exact nt
    have nt3 : NT K mt (pI (pI (pI (pA (pI (pI h2 40 3 0) 40 4 0) 45 (filI (hA h2 45) 32 0)) 39 5 0) 39 6 0) 39 7 0) := nt2
    have nt4 : NT K mt h4 := by
      obtain ⟨f1, f2, f3, f4⟩ := F4
      unfold NT at nt3 ⊢
      rw [f3 4 5 (by omega), f3 4 6 (by omega), (f4 5 (by decide) (by decide)).2.1, (f4 6 (by decide) (by decide)).2.1, (f4 7 (by decide) (by decide)).1, (f4 8 (by decide) (by decide)).1, (f4 9 (by decide) (by decide)).1, (f4 9 (by decide) (by decide)).2.2]
      exact nt3
    rcases hp with rfl | rfl <;> exact nt4
  -- what is as it was
  have keep : ∀ a, ¬ XP p a → hI (pI h4 p 13 (nI (pts N 0).length)) a = hI h a ∧ hL (pI h4 p 13 (nI (pts N 0).length)) a = hL h a ∧ hA (pI h4 p 13 (nI (pts N 0).length)) a = hA h a ∧ hB (pI h4 p 13 (nI (pts N 0).length)) a = hB h a ∧ hN (pI h4 p 13 (nI (pts N 0).length)) a = hN h a := fun a ha => by
    have ha2 : a < 130 ∧ a ≠ 2 ∧ ¬ (39 ≤ a ∧ a ≤ 46) ∧ ¬ (p ≤ a ∧ a ≤ p + 9) := by unfold XP at ha; omega
    obtain ⟨f1, f2, f3, f4⟩ := F4
    have A := A2 a (by omega) (by omega) (by omega) (by omega)
    have F := f4 a (by omega) (by omega)
    refine ⟨?_, ?_, ?_, ?_, ?_⟩
    · refine (up2_row (by omega)).trans ?_
      funext i
      refine Eq.trans (f3 a i (by omega)) ?_
      show hI (pI (pI (pI (pA (pI (pI h2 40 3 0) 40 4 0) 45 (filI (hA h2 45) 32 0)) 39 5 0) 39 6 0) 39 7 0) a i = _
      have : hI (pI (pI (pI (pA (pI (pI h2 40 3 0) 40 4 0) 45 (filI (hA h2 45) 32 0)) 39 5 0) 39 6 0) 39 7 0) a i = hI h2 a i := (up2_ne (by omega)).trans ((up2_ne (by omega)).trans ((up2_ne (by omega)).trans ((up2_ne (by omega)).trans (up2_ne (by omega)))))
      rw [this, I2 a i (by omega), i1]
    · show hL h4 a = hL h a
      rw [f2]
      show hL h2 a = _
      rw [L2, l1]
    · show hA h4 a = hA h a
      rw [F.1]
      exact (up1_ne (by omega)).trans (A.1.trans (by rw [a1]))
    · show hB h4 a = hB h a
      rw [F.2.1]
      exact A.2.1.trans (by rw [b1])
    · show hN h4 a = hN h a
      rw [F.2.2]
      exact A.2.2.trans (by rw [n1])
  have keepR : ∀ a b, ¬ (a = 39 ∧ b = 3) → hR (pI h4 p 13 (nI (pts N 0).length)) a b = hR h a b := fun a b w => by
    show hR h4 a b = _
    rw [F4.1]
    show hR h2 a b = _
    rw [R2]
    exact Ro a b w
  have hgl : (gdf N).length ≤ 7000 := by
    have := gdf_len (N := N) (pts N 0) []
    simp only [List.length_nil] at this
    unfold gdf
    omega
  have e15' : hI (pI h4 p 13 (nI (pts N 0).length)) p 15 = nI (gdf N).length := (up2_ne (by omega)).trans D4.2.2
  have e20 : hI (pI h4 p 13 (nI (pts N 0).length)) 2 0 = 0 ∧ hI (pI h4 p 13 (nI (pts N 0).length)) 2 1 = hI h 2 1 := by
    have key : ∀ i, hI (pI h4 p 13 (nI (pts N 0).length)) 2 i = hI h 2 i := fun i => by
      refine (up2_ne (by omega)).trans ?_
      refine Eq.trans (F4.2.2.1 2 i (by omega)) ?_
      show hI h2 2 i = _
      rw [I2 2 i (by omega), i1]
    exact ⟨(key 0).trans h20, key 1⟩
  have hcap1 : hN (pI h4 p 13 (nI (pts N 0).length)) (p + 1) = hN h2 (p + 1) ∧ hN (pI h4 p 13 (nI (pts N 0).length)) (p + 3) = hN h2 (p + 3) := ⟨(F4.2.2.2 (p + 1) (by omega) (by omega)).2.2, (F4.2.2.2 (p + 3) (by omega) (by omega)).2.2⟩
  have i40 : hI (pI h4 p 13 (nI (pts N 0).length)) 40 3 = 0 ∧ hI (pI h4 p 13 (nI (pts N 0).length)) 40 4 = 0 ∧ hI (pI h4 p 13 (nI (pts N 0).length)) 39 5 = 0 ∧ hI (pI h4 p 13 (nI (pts N 0).length)) 39 6 = 0 ∧ hI (pI h4 p 13 (nI (pts N 0).length)) 39 7 = 0 := by
    refine ⟨(up2_ne (by omega)).trans (F4.2.2.1 40 3 (by omega)), (up2_ne (by omega)).trans (F4.2.2.1 40 4 (by omega)), (up2_ne (by omega)).trans (F4.2.2.1 39 5 (by omega)), (up2_ne (by omega)).trans (F4.2.2.1 39 6 (by omega)), (up2_ne (by omega)).trans (F4.2.2.1 39 7 (by omega))⟩
  have a45 : hA (pI h4 p 13 (nI (pts N 0).length)) 45 0 = 0 := by
    show hA h4 45 0 = 0
    rw [(F4.2.2.2 45 (by decide) (by decide)).1]
    rfl
  have iP : ∀ i, i ≠ 13 → i ≠ 15 → hI (pI h4 p 13 (nI (pts N 0).length)) p i = hI h2 p i := fun i w1 w2 => by
    refine (up2_ne (by omega)).trans ?_
    refine Eq.trans (F4.2.2.1 p i (by omega)) ?_
    exact (up2_ne (by omega)).trans ((up2_ne (by omega)).trans ((up2_ne (by omega)).trans ((up2_ne (by omega)).trans (up2_ne (by omega)))))
  have D5 : DAx N K (pI h4 p 13 (nI (pts N 0).length)) := ⟨D4.1, D4.2.1⟩
  have hK8' : K.length ≤ hN (pI h4 p 13 (nI (pts N 0).length)) 8 := by rw [(keep 8 (by unfold XP; omega)).2.2.2.2]; exact hK8
  generalize pI h4 p 13 (nI (pts N 0).length) = h5 at *
  have s5 := C5.1
  have cap1 := (C5.2.2.2.2 (p + 1) (by rcases hp with rfl | rfl <;> decide)).2
  have cap3 := (C5.2.2.2.2 (p + 3) (by rcases hp with rfl | rfl <;> decide)).2
  have y1 : cpR (p + 1) = 15100 := by rcases hp with rfl | rfl <;> rfl
  have y3 : cpR (p + 3) = 24100 := by rcases hp with rfl | rfl <;> rfl
  have cc : CC N mt K p (hN h5 (p + 1)) (hN h5 (p + 3)) h5 := ⟨hp, R5, r5, ⟨nt5, hK8', h30⟩, nk, ⟨by omega, by omega, hgl⟩, hnP⟩
  have H0 : CH N K p (hN h5 (p + 1)) (hN h5 (p + 3)) h5 [] cZ0 h5 := by
    refine ⟨⟨⟨C5, ⟨rfl, rfl, rfl⟩, fun a _ => ⟨rfl, rfl, rfl, rfl, rfl⟩⟩, ⟨rfl, rfl⟩, D5, ⟨fun _ => ⟨e20.1, rfl⟩, fun k f e => by cases e⟩, ?_, ?_, fun _ => ?_⟩, fun _ => ⟨i40.2.2.1, Nat.zero_le _⟩⟩
    · exact ⟨i40.1, Nat.zero_le _, ⟨Nat.zero_le _, Nat.zero_le _, Nat.zero_le _⟩, fun i e he => (by simp [cZ0, rSc] at he), i40.2.1, Nat.zero_le _, fun l hl => by
        have hl : l ≤ 0 := hl
        have hl : l = 0 := by omega
        subst hl
        exact ⟨a45, Nat.zero_le _, fun j b e => by simp [cZ0, rKp] at e⟩⟩
    · exact ⟨⟨0, (iP 2 (by decide) (by decide)).trans ze.1, Nat.zero_le _⟩, ⟨0, (iP 4 (by decide) (by decide)).trans ze.2.1, Nat.zero_le _⟩, ⟨(iP 12 (by decide) (by decide)).trans ze.2.2.2.1, Nat.zero_le _, fun i hi => by cases hi⟩, 0, (iP 11 (by decide) (by decide)).trans ze.2.2.1, Nat.zero_le _, Nat.zero_le _⟩
    · exact ⟨i40.2.2.2.1, i40.2.2.2.2, fun i e he => (by simp [cZ0, rSc] at he), (iP 2 (by decide) (by decide)).trans ze.1, fun i e he => (by simp [cZ0, rCd] at he), (iP 4 (by decide) (by decide)).trans ze.2.1, fun i m v he => (by simp [cZ0, rDt] at he), fun i e he => (by simp [cZ0, rLm] at he), (iP 11 (by decide) (by decide)).trans ze.2.2.1, Nat.zero_le _, fun i x he => (by simp [cZ0, rSr] at he)⟩
  simp only [lv_args, z_v, z_lg, z_h, z_u, z_u1, z_c, z_ct, z_sk, sbne, lst1_d, ldel, lst2_d, ldel2, z_sw, z_rok, zi, eq_self, List.map_cons, List.map_nil, List.append_nil, List.nil_append, List.cons_append, Int32.reduceLT, Int32.reduceLE, Int32.reduceAdd, Int32.reduceSub, Int32.reduceMul, Int32.reduceToInt, Int32.reduceToNatClampNeg, Int.reduceLT, Int.reduceLE, Int.reduceNeg, true_and, and_true, or_self, or_false, false_or, false_and, and_false, true_or, or_true, if_true, if_false, ne_eq, Classical.not_not, not_true_eq_false, not_false_eq_true, true_implies, false_implies, implies_true, Nat.reduceEqDiff, Nat.reduceAdd, Nat.reduceLeDiff, Nat.reduceSub, reduceCtorEq, reduceIte, b7_0.2.2.2, skX s4, skX s5, srX s5, h00, kp s4, kp s5, rd_f s5 r5 hn0, t1, Nat.reduceLT]
  -- the end of it
  have fin : ∀ (z : CR) (h6 : Hp) (y3 y2 : Int32), z = cRw N mt 40 (pts N 0) cZ0 → (rFl z = none → rDp z = 0 ∧ rDx z ≤ 300) → CH N K p (hN h5 (p + 1)) (hN h5 (p + 3)) h5 [] z h6 → aWP d 7 123 [(3, .int y3), (2, .int y2), (0, .ref 39), (1, .ref p)] [] h6 Q := by
    intro z h6 y3' y2' ez hz H6
    have s6 := H6.1.1.1.1
    simp only [lv_args, z_v, z_lg, z_h, z_u, z_u1, z_c, z_ct, z_sk, sbne, lst1_d, ldel, lst2_d, ldel2, z_sw, z_rok, zi, eq_self, List.map_cons, List.map_nil, List.append_nil, List.nil_append, List.cons_append, Int32.reduceLT, Int32.reduceLE, Int32.reduceAdd, Int32.reduceSub, Int32.reduceMul, Int32.reduceToInt, Int32.reduceToNatClampNeg, Int.reduceLT, Int.reduceLE, Int.reduceNeg, true_and, and_true, or_self, or_false, false_or, false_and, and_false, true_or, or_true, if_true, if_false, ne_eq, Classical.not_not, not_true_eq_false, not_false_eq_true, true_implies, false_implies, implies_true, Nat.reduceEqDiff, Nat.reduceAdd, Nat.reduceLeDiff, Nat.reduceSub, reduceCtorEq, reduceIte, b7_123, skX s6, h00]
    refine sp_emit (o := 36) (v := 0) (dp := rDp z) cc H6 (fun G => by
      have := hz G.1
      exact ⟨rfl, rfl, Int32.add_zero _, by omega, by omega⟩) (by omega) (fun x h7 H7 _ => ?_)
    have s7 := H7.1.1.1.1
    have R7 := cc_R cc H7.1
    have ea : cE 36 0 (rDp z) z = cAll N mt := by rw [ez]; rfl
    rw [ea] at H7
    simp only [lv_args, z_v, z_lg, z_h, z_u, z_u1, z_c, z_ct, z_sk, sbne, lst1_d, ldel, lst2_d, ldel2, z_sw, z_rok, zi, eq_self, List.map_cons, List.map_nil, List.append_nil, List.nil_append, List.cons_append, Int32.reduceLT, Int32.reduceLE, Int32.reduceAdd, Int32.reduceSub, Int32.reduceMul, Int32.reduceToInt, Int32.reduceToNatClampNeg, Int.reduceLT, Int.reduceLE, Int.reduceNeg, true_and, and_true, or_self, or_false, false_or, false_and, and_false, true_or, or_true, if_true, if_false, ne_eq, Classical.not_not, not_true_eq_false, not_false_eq_true, true_implies, false_implies, implies_true, Nat.reduceEqDiff, Nat.reduceAdd, Nat.reduceLeDiff, Nat.reduceSub, reduceCtorEq, reduceIte, b7_123, skX s6, skX s7, srX s7, h00, kp s6, kp s7, R7, Nat.reduceLT]
    have H8 : CH N K p (hN h5 (p + 1)) (hN h5 (p + 3)) h5 [] (cAll N mt) (pI h7 p 14 (hI h7 39 7)) := by
      obtain ⟨⟨⟨cb, kx⟩, nn, da, ft, sc, pb, gx⟩, fm⟩ := H7
      refine ⟨⟨⟨cb_i cb, kx_I kx (by unfold XP; omega)⟩, nn, da, ?_, ?_, ?_, ?_⟩, ?_⟩
      · rcases hp with rfl | rfl <;> exact ft
      · rcases hp with rfl | rfl <;> exact sc
      · rcases hp with rfl | rfl <;> exact pb
      · rcases hp with rfl | rfl <;> exact gx
      · rcases hp with rfl | rfl <;> exact fm
    have e14 : hI (pI h7 p 14 (hI h7 39 7)) p 14 = hI h7 39 7 := (up2_eq : up2 (hI h7) p 14 _ p 14 = _)
    have e39 : gd (hN h5 (p + 1)) (hN h5 (p + 3)) (cAll N mt) → hI h7 39 7 = nI (rDx (cAll N mt)) := fun G => (H7.1.2.2.2.2.2.2 G).2.1
    generalize pI h7 p 14 (hI h7 39 7) = h8 at *
    have kx8 := H8.1.1.2
    refine hq h8 H8.1.1.1 (by rw [kx8.1.1]; exact R5) (fun a b w => by rw [kx8.1.1]; exact keepR a b w) (fun a ha => ?_) ?_ (fun hn => ?_)
    · obtain ⟨k1, k2, k3, k4, k5⟩ := kx8.2 a ha
      obtain ⟨m1', m2', m3', m4', m5'⟩ := keep a ha
      exact ⟨k1.trans m1', k2.trans m2', k3.trans m3', k4.trans m4', k5.trans m5'⟩
    · have ft := H8.1.2.2.2.1
      exact ⟨fun w => ⟨(ft.1 w).1, (ft.1 w).2.trans e20.2⟩, ft.2⟩
    · have G : gd (hN h5 (p + 1)) (hN h5 (p + 3)) (cAll N mt) := by
        have hn' : rFl z = none := by rw [ez]; exact hn
        have hs := frs_sqn _ _ _ t2.1 (by omega : N.1 < 2000000000)
        have E := rw_e (N := N) (mt := mt) (pts N 0) 1 N.1 cZ0 hs (by omega) ki_0
        rw [← ez] at E
        obtain ⟨_, _, _, E4, E5⟩ := E
        obtain ⟨_, u2, u3, _, _⟩ := E5 hn'
        obtain ⟨_, _, _, _, v5, v6, v7⟩ := E4.2 hn'
        have c0 : rFm cZ0 = 0 := rfl
        have c0' : (rCd cZ0).length = 0 := rfl
        have c0'' : (rDt cZ0).length = 0 := rfl
        have v6' := v6 (by rw [c0]; omega)
        refine ⟨hn, ?_, ?_⟩
        · rw [← ea, cd_E, hcap1.1]
          omega
        · have : rDt (cAll N mt) = rDt z := by rw [← ea]; rfl
          rw [this, hcap1.2]
          omega
      refine px_of hp hBk hn H8 G (by omega) (by omega) (by rw [kx8.1.2.1]; exact e13) (by rw [e14]; exact e39 G) (by rw [kx8.1.2.2]; exact e15')
  have loop : ∀ (l : List Nat) (i a : Nat) (z : CR) (h6 : Hp), TL g N l a N.1 → i + l.length = (pts N 0).length → (KI z.2.1 ∧ rSc z = [] ∧ rBd z = 0 ∧ (rFl z = none → rDp z = 0 ∧ rDx z ≤ 300)) → CH N K p (hN h5 (p + 1)) (hN h5 (p + 3)) h5 [] z h6 → cRw N mt 40 l z = cRw N mt 40 (pts N 0) cZ0 → aWP d 7 71 [(3, .int (nI i)), (2, .int (oI l.head?)), (0, .ref 39), (1, .ref p)] [] h6 Q := by
    intro l
    induction l with
    | nil =>
      intro i a z h6 tl hi hz H6 e
      have hi : i = (pts N 0).length := hi
      have s6 := H6.1.1.1.1
      have R6 := cc_R cc H6.1
      have e13' : hI h6 p 13 = nI (pts N 0).length := by rw [H6.1.1.2.1.2.1]; exact e13
      have go := fin z h6 (nI i) (oI ([] : List Nat).head?) e hz.2.2.2 H6
      simp only [lv_args, z_v, z_lg, z_h, z_u, z_u1, z_c, z_ct, z_sk, sbne, lst1_d, ldel, lst2_d, ldel2, z_sw, z_rok, zi, eq_self, List.map_cons, List.map_nil, List.append_nil, List.nil_append, List.cons_append, Int32.reduceLT, Int32.reduceLE, Int32.reduceAdd, Int32.reduceSub, Int32.reduceMul, Int32.reduceToInt, Int32.reduceToNatClampNeg, Int.reduceLT, Int.reduceLE, Int.reduceNeg, true_and, and_true, or_self, or_false, false_or, false_and, and_false, true_or, or_true, if_true, if_false, ne_eq, Classical.not_not, not_true_eq_false, not_false_eq_true, true_implies, false_implies, implies_true, Nat.reduceEqDiff, Nat.reduceAdd, Nat.reduceLeDiff, Nat.reduceSub, reduceCtorEq, reduceIte, b7_71, skX s6, srX s6, R6, kp s6, e13']
      simp (disch := omega) only [nI_leN]
      exact ⟨fun _ => go, fun c => absurd (by omega) c⟩
    | cons c l ih =>
      intro i a z h6 tl hi hz H6 e
      simp only [List.length_cons] at hi
      obtain ⟨x1, x2, x3, m, x4, x5, x6⟩ := tl_c tl
      obtain ⟨z1, z2, z3, z4⟩ := hz
      have s6 := H6.1.1.1.1
      have R6 := cc_R cc H6.1
      have ho : oI (List.head? (c :: l)) = nI c := rfl
      have e13' : hI h6 p 13 = nI (pts N 0).length := by rw [H6.1.1.2.1.2.1]; exact e13
      simp only [lv_args, z_v, z_lg, z_h, z_u, z_u1, z_c, z_ct, z_sk, sbne, lst1_d, ldel, lst2_d, ldel2, z_sw, z_rok, zi, eq_self, List.map_cons, List.map_nil, List.append_nil, List.nil_append, List.cons_append, Int32.reduceLT, Int32.reduceLE, Int32.reduceAdd, Int32.reduceSub, Int32.reduceMul, Int32.reduceToInt, Int32.reduceToNatClampNeg, Int.reduceLT, Int.reduceLE, Int.reduceNeg, true_and, and_true, or_self, or_false, false_or, false_and, and_false, true_or, or_true, if_true, if_false, ne_eq, Classical.not_not, not_true_eq_false, not_false_eq_true, true_implies, false_implies, implies_true, Nat.reduceEqDiff, Nat.reduceAdd, Nat.reduceLeDiff, Nat.reduceSub, reduceCtorEq, reduceIte, b7_71, skX s6, srX s6, R6, kp s6, e13', ho]
      simp (disch := omega) only [nI_leN]
      refine ⟨fun c => absurd c (by omega), fun _ => ?_⟩
      simp only [lv_args, z_v, z_lg, z_h, z_u, z_u1, z_c, z_ct, z_sk, sbne, lst1_d, ldel, lst2_d, ldel2, z_sw, z_rok, zi, eq_self, List.map_cons, List.map_nil, List.append_nil, List.nil_append, List.cons_append, Int32.reduceLT, Int32.reduceLE, Int32.reduceAdd, Int32.reduceSub, Int32.reduceMul, Int32.reduceToInt, Int32.reduceToNatClampNeg, Int.reduceLT, Int.reduceLE, Int.reduceNeg, true_and, and_true, or_self, or_false, false_or, false_and, and_false, true_or, or_true, if_true, if_false, ne_eq, Classical.not_not, not_true_eq_false, not_false_eq_true, true_implies, false_implies, implies_true, Nat.reduceEqDiff, Nat.reduceAdd, Nat.reduceLeDiff, Nat.reduceSub, reduceCtorEq, reduceIte, b7_82, skX s6, srX s6, h00, e32_2 _ _ s6, Nat.reduceLT]
      by_cases cf : rFl z = none
      · have e20' : hI h6 2 0 = 0 := (H6.1.2.2.2.1.1 cf).1
        rw [cRw, if_neg (fun c => c cf)] at e
        have w : CW (9 * g) g z := ⟨z1, by rw [z2]; simp only [List.length_nil]; omega, by omega, fun hn => by have := z4 hn; omega⟩
        have E := cF_e (N := N) (mt := mt) 40 g (by omega) (Nat.le_refl _) c m false true z x4 (by omega) z1
        have Dd := cF_d (N := N) (mt := mt) 40 g (by omega) (Nat.le_refl _) (by omega) c m false true z 300 x4 (by omega) z1 (by rw [z2]; simp only [List.length_nil]; omega) (fun hn => by have := z4 hn; omega) (Nat.le_refl _)
        simp only [e20', not_true_eq_false, false_imp_iff, true_imp_iff, true_and]
        try simp only [lv_args, z_v, z_lg, z_h, z_u, z_u1, z_c, z_ct, z_sk, sbne, lst1_d, ldel, lst2_d, ldel2, z_sw, z_rok, zi, eq_self, List.map_cons, List.map_nil, List.append_nil, List.nil_append, List.cons_append, Int32.reduceLT, Int32.reduceLE, Int32.reduceAdd, Int32.reduceSub, Int32.reduceMul, Int32.reduceToInt, Int32.reduceToNatClampNeg, Int.reduceLT, Int.reduceLE, Int.reduceNeg, true_and, and_true, or_self, or_false, false_or, false_and, and_false, true_or, or_true, if_true, if_false, ne_eq, Classical.not_not, not_true_eq_false, not_false_eq_true, true_implies, false_implies, implies_true, Nat.reduceEqDiff, Nat.reduceAdd, Nat.reduceLeDiff, Nat.reduceSub, reduceCtorEq, reduceIte, b7_82, skX s6, z10, Nat.reduceLT]
        simp only [lv_args, z_v, z_lg, z_h, z_u, z_u1, z_c, z_ct, z_sk, sbne, lst1_d, ldel, lst2_d, ldel2, z_sw, z_rok, zi, eq_self, List.map_cons, List.map_nil, List.append_nil, List.nil_append, List.cons_append, Int32.reduceLT, Int32.reduceLE, Int32.reduceAdd, Int32.reduceSub, Int32.reduceMul, Int32.reduceToInt, Int32.reduceToNatClampNeg, Int.reduceLT, Int.reduceLE, Int.reduceNeg, true_and, and_true, or_self, or_false, false_or, false_and, and_false, true_or, or_true, if_true, if_false, ne_eq, Classical.not_not, not_true_eq_false, not_false_eq_true, true_implies, false_implies, implies_true, Nat.reduceEqDiff, Nat.reduceAdd, Nat.reduceLeDiff, Nat.reduceSub, reduceCtorEq, reduceIte, b7_92, skX s6, h00]
        refine sp_form cc 40 g (by omega) (Nat.le_refl _) hg c m 0 false true z h6 _ _ [] x4 x5 x2 w H6 rfl (fun _ => rfl) (by omega) (by omega) (fun h7 H7 => ?_)
        generalize ezf : cF N mt 40 c false true z = zf at *
        have s7 := H7.1.1.1.1
        have dp7 : rFl zf = none → rDp zf = 1 ∧ rDx zf ≤ 300 := fun hn => by
          have h1 := (E.2.2.2.2 hn).1
          have h2 := (Dd hn).1
          have h3 := z4 cf
          exact ⟨by omega, by omega⟩
        simp only [lv_args, z_v, z_lg, z_h, z_u, z_u1, z_c, z_ct, z_sk, sbne, lst1_d, ldel, lst2_d, ldel2, z_sw, z_rok, zi, eq_self, List.map_cons, List.map_nil, List.append_nil, List.nil_append, List.cons_append, Int32.reduceLT, Int32.reduceLE, Int32.reduceAdd, Int32.reduceSub, Int32.reduceMul, Int32.reduceToInt, Int32.reduceToNatClampNeg, Int.reduceLT, Int.reduceLE, Int.reduceNeg, true_and, and_true, or_self, or_false, false_or, false_and, and_false, true_or, or_true, if_true, if_false, ne_eq, Classical.not_not, not_true_eq_false, not_false_eq_true, true_implies, false_implies, implies_true, Nat.reduceEqDiff, Nat.reduceAdd, Nat.reduceLeDiff, Nat.reduceSub, reduceCtorEq, reduceIte, b7_92, skX s6, skX s7, h00, kp s6, Nat.reduceLT]
        refine sp_emit (o := 35) (v := 0) (dp := rDp zf - 1) cc H7 (fun G => by
          have := dp7 G.1
          exact ⟨rfl, rfl, i32_m1 (by omega), by omega, by omega⟩) (by omega) (fun x h8 H8 _ => ?_)
        have s8 := H8.1.1.1.1
        have r8 := cc_rd cc H8.1
        have nx := ih (i + 1) m (cE 35 0 (rDp zf - 1) zf) h8 x6 (by omega) ⟨E.2.2.1, E.1.trans z2, E.2.1.trans z3, fun hn => by
          have := dp7 hn
          refine ⟨by show rDp zf - 1 = 0; omega, ?_⟩
          show max (rDx zf) (rDp zf - 1) ≤ 300
          omega⟩ H8 e
        simp only [lv_args, z_v, z_lg, z_h, z_u, z_u1, z_c, z_ct, z_sk, sbne, lst1_d, ldel, lst2_d, ldel2, z_sw, z_rok, zi, eq_self, List.map_cons, List.map_nil, List.append_nil, List.nil_append, List.cons_append, Int32.reduceLT, Int32.reduceLE, Int32.reduceAdd, Int32.reduceSub, Int32.reduceMul, Int32.reduceToInt, Int32.reduceToNatClampNeg, Int.reduceLT, Int.reduceLE, Int.reduceNeg, true_and, and_true, or_self, or_false, false_or, false_and, and_false, true_or, or_true, if_true, if_false, ne_eq, Classical.not_not, not_true_eq_false, not_false_eq_true, true_implies, false_implies, implies_true, Nat.reduceEqDiff, Nat.reduceAdd, Nat.reduceLeDiff, Nat.reduceSub, reduceCtorEq, reduceIte, b7_92, skX s7, skX s8, srX s8, h00, kp s7, Nat.reduceLT, rd_x s8 r8 x1, x3, nI_1]
        exact nx
      · have e20' : ¬ hI h6 2 0 = 0 := fun e' => by
          obtain ⟨⟨k0, f0⟩, e0⟩ := Option.ne_none_iff_exists'.mp cf
          obtain ⟨y1, y2, y3, y4⟩ := H6.1.2.2.2.1.2 k0 f0 e0
          rw [y1] at e'
          have := nI_inj (a := k0) (b := 0) (by omega) (by omega) e'
          omega
        rw [cRw, if_pos cf] at e
        have go := fin z h6 (nI i) (nI c) e z4 H6
        simp only [e20', not_false_eq_true, false_imp_iff, true_imp_iff, and_true]
        try simp only [lv_args, z_v, z_lg, z_h, z_u, z_u1, z_c, z_ct, z_sk, sbne, lst1_d, ldel, lst2_d, ldel2, z_sw, z_rok, zi, eq_self, List.map_cons, List.map_nil, List.append_nil, List.nil_append, List.cons_append, Int32.reduceLT, Int32.reduceLE, Int32.reduceAdd, Int32.reduceSub, Int32.reduceMul, Int32.reduceToInt, Int32.reduceToNatClampNeg, Int.reduceLT, Int.reduceLE, Int.reduceNeg, true_and, and_true, or_self, or_false, false_or, false_and, and_false, true_or, or_true, if_true, if_false, ne_eq, Classical.not_not, not_true_eq_false, not_false_eq_true, true_implies, false_implies, implies_true, Nat.reduceEqDiff, Nat.reduceAdd, Nat.reduceLeDiff, Nat.reduceSub, reduceCtorEq, reduceIte, b7_82, skX s6, Nat.reduceLT]
        exact go
  exact loop (pts N 0) 0 1 cZ0 h5 t2 (Nat.zero_add _) ⟨ki_0, rfl, rfl, fun _ => ⟨rfl, Nat.zero_le _⟩⟩ H0 rfl
end CFI
