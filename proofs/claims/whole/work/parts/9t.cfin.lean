/-! BUILD. compile, whole -/
section CFI
variable {h h' h0 : Hp} {Q : Option Value → Hp → Prop} {d p c1 c2 n g b : Nat} {N : NS} {mt : List Nat} {K : List KY} {nw : Nat → Int32}
/-- the program as the heap holds it at the end -/
theorem px_of (hp : p = 19 ∨ p = 29) (hB : BK1 N mt nw) (hn : rFl (cAll N mt) = none) (H : CH N K p c1 c2 h0 [] (cAll N mt) h) (G : gd c1 c2 (cAll N mt)) (y1 : c1 ≤ 15100) (y2 : c2 ≤ 24100) (e13 : hI h p 13 = nI (pts N 0).length) (e14 : hI h p 14 = nI (rDx (cAll N mt))) (e15 : hI h p 15 = nI (gdf N).length) : PX (gOf N mt nw) p h := by
  obtain ⟨z, ez, _, b1, b2, b3, b4, b5, b6, b7, b8, b9, b10, b11, ⟨b12, b13, _⟩, _⟩ := all_bnd hB hn
  have dt : rDt (cAll N mt) = rDt z := by rw [ez]; rfl
  have lm : rLm (cAll N mt) = rLm z := by rw [ez]; rfl
  obtain ⟨⟨⟨cb, kx⟩, ⟨n1, n3⟩, da, ft, sc, ⟨pb1, pb2, ⟨pb3, pb4, _⟩, s0, pb5, pb6, pb7⟩, gx⟩, fm⟩ := H
  obtain ⟨g1, g2, g3, g4, g5, g6, g7, g8, g9, g11, g10⟩ := gx G
  have n12 : hN h (p + 2) = c1 := by
    have := cb.2.2.2.1.2
    rcases hp with rfl | rfl
    · exact this.1.symm.trans n1
    · exact this.2.symm.trans n1
  have es : s0 = (rSr (cAll N mt)).length := nI_inj (by simp only [List.length_nil] at pb6; omega) (by omega) (pb5.symm.trans g9)
  refine ⟨hp, g4, by rw [n1]; exact G.2.1, by rw [n12]; exact G.2.1, fun i hi => ?_, ?_, fun j j1 j2 => ?_, fun M M1 M2 => ?_, ?_, e15, g6, by rw [n3]; exact G.2.2, ?_, e13, fun i hi => ?_⟩
  · have hi : i < (rCd (cAll N mt)).length := hi
    exact g5 i _ (gdD hi)
  · show hI h p 12 = nI (mLa (mAll N))
    rw [pb3, lm, b7]
  · have key : ∀ j, 4 ≤ j → j ≤ 8 → (19 + j, 120) ∈ LNl ∧ (29 + j, 120) ∈ LNl := by
      intro j h1 h2
      have : j = 4 ∨ j = 5 ∨ j = 6 ∨ j = 7 ∨ j = 8 := by omega
      rcases this with rfl | rfl | rfl | rfl | rfl <;> exact ⟨by decide, by decide⟩
    rcases hp with rfl | rfl
    · exact cb.2.2.1.2 _ (key j j1 j2).1
    · exact cb.2.2.1.2 _ (key j j1 j2).2
  · have M2 : M ≤ mLa (mAll N) := M2
    have hM : M - 1 < (rLm (cAll N mt)).length := by rw [lm, b7]; omega
    have hg := gdD (x := ((0, 0, 0, 0, []) : LMe)) hM
    obtain ⟨u1, u2⟩ := g8 (M - 1) _ hg
    obtain ⟨u3, u4, u5, u6⟩ := u2 (by simp)
    have ls := ls_all (N := N) (mt := mt) (M - 1) _ hg
    have fr : pFr (gOf N mt nw) M = (lmD N mt M).2.2.2.2.length := fr_of M1
    have dm : pDm (gOf N mt nw) M = (lmD N mt M).2.2.1 := dm_of M1
    refine ⟨u3, u1, by rw [dm]; exact u4, u5, by rw [fr]; exact u6, (rSr (cAll N mt)).length, g9, ?_, by rw [← es]; exact pb7, by omega, fun k hk => ?_⟩
    · rw [fr]; exact ls
    · rw [fr] at hk
      have hk2 : pKs (gOf N mt nw) M + k < (rSr (cAll N mt)).length := Nat.lt_of_lt_of_le (Nat.add_lt_add_left hk _) ls
      exact g10 _ _ (gdD hk2)
  · exact e14
  · show (rDt (cAll N mt)).length ≤ 12402
    rw [dt]; omega
  · have hi : i < (rDt (cAll N mt)).length := hi
    have hg := gdD (x := ((0, none) : DTe)) hi
    generalize hx : (rDt (cAll N mt)).getD i (0, none) = e at hg
    obtain ⟨m, ov⟩ := e
    obtain ⟨k, c, e0⟩ := b13.2.2.1 i m ov (by rw [← dt]; exact hg) (fun f => f)
    subst e0
    have dv : dtV N mt i = vof k c := by
      unfold dtV
      rw [hx]
      rfl
    show hB h (p + 3) i = vof (vkd (dtV N mt i)) (dtV N mt i).toInt32
    rw [dv, vof_kd, vof_lo]
    exact g7 i m _ hg
theorem sp_compile {q0 : Nat} (c : CB h) (hp : p = 19 ∨ p = 29) (R0 : hR h 39 3 = some q0) (hq0 : q0 = 19 ∨ q0 = 29) (r : RD N h) (nt : NT K mt h) (hK8 : K.length ≤ hN h 8) (h30 : 30 ≤ K.length) (hK : K.length ≤ 1532) (hB : BK1 N mt nw) (ht : Tr (g + 1) N 0 N.1) (hg : g ≤ 31) (h6 : nK N 0 = 6) (hlf : ∀ i, 1 ≤ i → i < N.1 → nK N i ≠ 6 → nF N i = -1) (hnP : ∀ i, 1 ≤ i → i < N.1 → nP N i = nI (nQ N i)) (hN1 : N.1 ≤ 6001) (h20 : hI h 2 0 = 0) (hd : 300 < d)
    (hq : ∀ h', CB h' → hR h' 39 3 = some p → (∀ a b, ¬ (a = 39 ∧ b = 3) → hR h' a b = hR h a b) → (∀ a, ¬ XP p a → hI h' a = hI h a ∧ hL h' a = hL h a ∧ hA h' a = hA h a ∧ hB h' a = hB h a ∧ hN h' a = hN h a) → FTx (rFl (cAll N mt)) h h' → (rFl (cAll N mt) = none → PX (gOf N mt nw) p h') → Q none h') : aEv d 7 [.ref 39, .ref p] h Q := by
  have h00 : 0 < d := by omega
  have nk := hB.1
  have hNm := nk.2.2
  obtain ⟨t1, t2, hn0⟩ := tl_n ht h6 (Nat.le_refl _) hNm
  have hlen := tl_len t2
  have s := c.1
  have z0 : (0 : Int32) = nI 0 := rfl
  have z10 : ¬ (1 : Int32) = 0 := by decide
  have eb0 : bI false = 0 := rfl
  have hp130 : p < SB := by have sb : SB = 1000000 := rfl; omega
  have hsw : ¬ swOK h [(0, .ref 39), (1, .ref p)] [] 39 3 q0 p := fun w => by
    have c3 := w.2.2.1
    have kr : hK h q0 = 7 := by rcases hq0 with rfl | rfl <;> exact s.1 _ (by decide)
    omega
  have C1 : CB (pR h 39 3 (some p)) := ⟨sk_vr rfl s, vy_vr (by omega) c.2.1, rm_same rfl rfl rfl c.2.2⟩
  unfold aEv
  simp only [lv_args, z_v, z_lg, z_h, z_u, z_u1, z_c, z_ct, z_sk, sbne, lst1_d, ldel, lst2_d, ldel2, z_sw, z_rok, zi, eq_self, List.map_cons, List.map_nil, List.append_nil, List.nil_append, List.cons_append, Int32.reduceLT, Int32.reduceLE, Int32.reduceAdd, Int32.reduceSub, Int32.reduceMul, Int32.reduceToInt, Int32.reduceToNatClampNeg, Int.reduceLT, Int.reduceLE, Int.reduceNeg, true_and, and_true, or_self, or_false, false_or, false_and, and_false, true_or, or_true, if_true, if_false, ne_eq, Classical.not_not, not_true_eq_false, not_false_eq_true, true_implies, false_implies, implies_true, Nat.reduceEqDiff, Nat.reduceAdd, Nat.reduceLeDiff, Nat.reduceSub, reduceCtorEq, reduceIte, b7_0.1, b7_0.2.1]
  refine (k_putO (st := []) mm_7 dX0_compile_2 fl_0_30 rfl (by unfold finOK; decide +kernel) R0 hsw).mpr ⟨⟨s.1 39 (by decide), hp130⟩, ?_⟩
  have R1 : hR (pR h 39 3 (some p)) 39 3 = some p := (up2_eq : up2 (hR h) 39 3 (some p) 39 3 = some p)
  have Ro : ∀ a b, ¬ (a = 39 ∧ b = 3) → hR (pR h 39 3 (some p)) a b = hR h a b := fun a b w => up2_ne w
  have i1 : hI (pR h 39 3 (some p)) = hI h := rfl
  have a1 : hA (pR h 39 3 (some p)) = hA h := rfl
  have b1 : hB (pR h 39 3 (some p)) = hB h := rfl
  have n1 : hN (pR h 39 3 (some p)) = hNm h := rfl
  have l1 : hL (pR h 39 3 (some p)) = hL h := rfl
  generalize pR h 39 3 (some p) = h1 at *
  have s1 := C1.1
  have kp : ∀ {h : Hp}, Sk h → hK h p = 7 := fun {h} s => by rcases hp with rfl | rfl <;> exact s.1 _ (by decide)
  have e37 : hI h1 3 7 = nI N.1 := by rw [i1]; exact r.1.1
  simp only [lv_args, z_v, z_lg, z_h, z_u, z_u1, z_c, z_ct, z_sk, sbne, lst1_d, ldel, lst2_d, ldel2, z_sw, z_rok, zi, eq_self, List.map_cons, List.map_nil, List.append_nil, List.nil_append, List.cons_append, Int32.reduceLT, Int32.reduceLE, Int32.reduceAdd, Int32.reduceSub, Int32.reduceMul, Int32.reduceToInt, Int32.reduceToNatClampNeg, Int.reduceLT, Int.reduceLE, Int.reduceNeg, true_and, and_true, or_self, or_false, false_or, false_and, and_false, true_or, or_true, if_true, if_false, ne_eq, Classical.not_not, not_true_eq_false, not_false_eq_true, true_implies, false_implies, implies_true, Nat.reduceEqDiff, Nat.reduceAdd, Nat.reduceLeDiff, Nat.reduceSub, reduceCtorEq, reduceIte, b7_0.2.2.2, skX s1, srX s1, h00, R1, kp s1, e133_3 _ _ s1, e37, Nat.reduceLT]
  sorry
end CFI
