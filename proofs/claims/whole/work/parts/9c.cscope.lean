/-! BUILD. The compiler's scope -/
theorem rt_s : (∀ e, e ∈ RTl → e.2 = 41 → e.1 = (40, 0)) ∧ (∀ e, e ∈ RTl → e.2 = 42 → e.1 = (40, 1)) ∧ (∀ e, e ∈ RTl → e.2 = 43 → e.1 = (40, 2)) ∧ (∀ e, e ∈ RTl → e.2 = 44 → e.1 = (40, 5)) := by decide +kernel
section CSC
variable {h h' h0 : Hp} {Q : Option Value → Hp → Prop} {d p c1 c2 n : Nat} {N : NS} {mt op : List Nat} {K : List KY} {z : CR}
/-- a row of the scope has room: nothing else changes -/
theorem ch_gro {r : Nat} (cc : CC N mt K p c1 c2 h0) (H : CH N K p c1 c2 h0 op z h) (hr : r = 41 ∨ r = 42 ∨ r = 43 ∨ r = 44) (hn2 : 2 * n ≤ cpR r + 1) (hn1 : n ≤ cpR r) : CH N K p c1 c2 h0 op z (rmI h r n) ∧ n ≤ hN (rmI h r n) r := by
  obtain ⟨⟨⟨cb, kx⟩, nn, da, ft, sc, pb, gx⟩, fm⟩ := H
  have hp := cc.1
  have hg : r ∈ GLs := by rcases hr with rfl | rfl | rfl | rfl <;> decide
  obtain ⟨c1', m1, g1, g2⟩ := cb_I (n := n) cb (r := r) hg hn1 hn2 (by omega)
  have gI := g1.2.1
  have gO := g1.2.2.2.2.1
  have gN : hN h r ≤ hN (rmI h r n) r := g1.2.2.2.2.2.2.1
  have kx1 := kx_G kx g1 (by unfold XP; omega)
  generalize rmI h r n = H at *
  have eN : ∀ a, a < 130 → hN h a ≤ hN H a := fun a ha => by
    by_cases c : a = r
    · subst c; exact gN
    · rw [(gO a ha c).2.2]; exact Nat.le_refl _
  have eA : ∀ a i, a < 130 → i < hN h a → hA H a i = hA h a i := fun a i ha hi => by
    by_cases c : a = r
    · subst c; exact g2 i hi
    · rw [(gO a ha c).1]
  have eq1 : ∀ a, a < 130 → a ≠ 41 → a ≠ 42 → a ≠ 43 → a ≠ 44 → hA H a = hA h a ∧ hB H a = hB h a ∧ hN H a = hN h a := fun a ha c1 c2 c3 c4 => gO a ha (by omega)
  refine ⟨⟨⟨⟨c1', kx1⟩, ?_, ?_, ?_, ?_, ?_, fun G => ?_⟩, ?_⟩, m1⟩
  · rw [(eq1 (p + 1) (by omega) (by omega) (by omega) (by omega) (by omega)).2.2, (eq1 (p + 3) (by omega) (by omega) (by omega) (by omega) (by omega)).2.2]
    exact nn
  · unfold DAx
    rw [(eq1 46 (by omega) (by omega) (by omega) (by omega) (by omega)).1, (eq1 46 (by omega) (by omega) (by omega) (by omega) (by omega)).2.2]
    exact da
  · unfold FTx
    rw [gI]; exact ft
  · obtain ⟨s1, s2, ⟨s3, s4, s5⟩, s6, s7, s8, s9⟩ := sc
    refine ⟨by rw [gI]; exact s1, s2, ⟨Nat.le_trans s3 (eN 41 (by decide)), Nat.le_trans s4 (eN 42 (by decide)), Nat.le_trans s5 (eN 43 (by decide))⟩, fun i e he => ?_, by rw [gI]; exact s7, s8, fun l hl => ?_⟩
    · have hi := g_lt he
      rw [eA 41 i (by decide) (by omega), eA 43 i (by decide) (by omega)]
      exact s6 i e he
    · obtain ⟨t1, t2, t3⟩ := s9 l hl
      refine ⟨by rw [(eq1 45 (by omega) (by omega) (by omega) (by omega) (by omega)).1]; exact t1, t2, fun j b hj => ?_⟩
      obtain ⟨u1, u2⟩ := t3 j b hj
      exact ⟨Nat.lt_of_lt_of_le u1 (eN 44 (by decide)), by rw [eA 44 _ (by decide) u1]; exact u2⟩
  · unfold PBx
    rw [gI, (eq1 (p + 1) (by omega) (by omega) (by omega) (by omega) (by omega)).2.2, (eq1 (p + 3) (by omega) (by omega) (by omega) (by omega) (by omega)).2.2, (eq1 (p + 9) (by omega) (by omega) (by omega) (by omega) (by omega)).2.2]
    exact pb
  · obtain ⟨g1', g2', g3', g4'⟩ := gx G
    unfold GDx
    rw [gI, (eq1 (p + 1) (by omega) (by omega) (by omega) (by omega) (by omega)).1, (eq1 (p + 2) (by omega) (by omega) (by omega) (by omega) (by omega)).1, (eq1 (p + 3) (by omega) (by omega) (by omega) (by omega) (by omega)).2.1, (eq1 (p + 4) (by omega) (by omega) (by omega) (by omega) (by omega)).1, (eq1 (p + 5) (by omega) (by omega) (by omega) (by omega) (by omega)).1, (eq1 (p + 6) (by omega) (by omega) (by omega) (by omega) (by omega)).1, (eq1 (p + 7) (by omega) (by omega) (by omega) (by omega) (by omega)).1, (eq1 (p + 8) (by omega) (by omega) (by omega) (by omega) (by omega)).1, (eq1 (p + 9) (by omega) (by omega) (by omega) (by omega) (by omega)).1]
    refine ⟨g1', g2', fun i e he => ?_, g4'⟩
    have hi := g_lt he
    rw [eA 42 i (by decide) (by have := sc.2.2.1; omega)]
    exact g3' i e he
  · rw [gI]; exact fm
/-- a name is bound -/
theorem sp_cbind {j sl : Nat} {v1 v2 : Int32} (cc : CC N mt K p c1 c2 h0) (H : CH N K p c1 c2 h0 op z h) (e1 : v1 = nI j) (hj : j < 100000) (e2 : gd c1 c2 z → v2 = nI sl) (hl : (rSc z).length + 1 ≤ 248) (hd : 5 < d) (hq : ∀ h', CH N K p c1 c2 h0 op (cBi j sl z) h' → Q none h') : aEv d 141 [.ref 40, .int v1, .int v2] h Q := by
  subst e1
  have lL : ∀ {f : Nat}, f ≠ 40 → ∀ z ∈ [((0 : Nat), Value.ref 40), (1, Value.int (nI j)), (2, Value.int v2)], ∀ q, z.2 = .ref q → q ≠ f ∧ q < 130 := fun {f} hf z hz q e => by
    simp only [List.mem_cons, List.not_mem_nil, or_false] at hz
    rcases hz with rfl | rfl | rfl
    · injection e with e
      subst e
      exact ⟨Ne.symm hf, by decide⟩
    · cases e
    · cases e
  have y41 : cpR 41 = 3100 := rfl
  have y42 : cpR 42 = 3100 := rfl
  have y43 : cpR 43 = 3100 := rfl
  have c := H.1.1.1
  have z3 : hI h 40 3 = nI (rSc z).length := H.1.2.2.2.2.1.1
  have l1 := (c.2.2.2.2 41 (by decide)).2
  obtain ⟨H1, m1⟩ := ch_gro (r := 41) (n := (rSc z).length + 1) cc H (by omega) (by omega) (by omega)
  unfold aEv
  simp only [lv_args, z_v, z_lg, z_h, z_u, z_u1, z_c, z_ct, z_sk, sbne, lst1_d, ldel, lst2_d, ldel2, z_sw, z_rok, zi, eq_self, List.map_cons, List.map_nil, List.append_nil, List.nil_append, List.cons_append, Int32.reduceLT, Int32.reduceLE, Int32.reduceAdd, Int32.reduceSub, Int32.reduceMul, Int32.reduceToInt, Int32.reduceToNatClampNeg, Int.reduceLT, Int.reduceLE, Int.reduceNeg, true_and, and_true, or_self, or_false, false_or, false_and, and_false, true_or, or_true, if_true, if_false, ne_eq, Classical.not_not, not_true_eq_false, not_false_eq_true, true_implies, false_implies, implies_true, Nat.reduceEqDiff, Nat.reduceAdd, Nat.reduceLeDiff, Nat.reduceSub, reduceCtorEq, reduceIte, b141_0, skX c.1, srX c.1, z3, nI_s]
  refine grw_I (st := []) mm_141 dX9_bind_11 ml_9_40 dX9_bind_14 fl_9_9 rfl (by unfold finOK; decide +kernel) (by omega) c.1 c.2.1 c.2.2 (c.1.1 40 (by decide)) (by decide) (c.1.2.1 40 0 rfl) (c.1.1 41 (by decide)) (by decide) (by decide) rt_s.1 (lL (by decide)) (by omega) (by omega) ?_
  generalize rmI h 41 ((rSc z).length + 1) = h1 at *
  have c1' := H1.1.1.1
  have z31 : hI h1 40 3 = nI (rSc z).length := H1.1.2.2.2.2.1.1
  have l2 := (c1'.2.2.2.2 42 (by decide)).2
  obtain ⟨H2, m2⟩ := ch_gro (r := 42) (n := (rSc z).length + 1) cc H1 (by omega) (by omega) (by omega)
  have e41 : hN (rmI h1 42 ((rSc z).length + 1)) 41 = hN h1 41 := ((gro_I c1'.1 (a := 42) (by decide) ((rSc z).length + 1)).1.2.2.2.2.1 41 (by decide) (by decide)).2.2
  simp only [lv_args, z_v, z_lg, z_h, z_u, z_u1, z_c, z_ct, z_sk, sbne, lst1_d, ldel, lst2_d, ldel2, z_sw, z_rok, zi, eq_self, List.map_cons, List.map_nil, List.append_nil, List.nil_append, List.cons_append, Int32.reduceLT, Int32.reduceLE, Int32.reduceAdd, Int32.reduceSub, Int32.reduceMul, Int32.reduceToInt, Int32.reduceToNatClampNeg, Int.reduceLT, Int.reduceLE, Int.reduceNeg, true_and, and_true, or_self, or_false, false_or, false_and, and_false, true_or, or_true, if_true, if_false, ne_eq, Classical.not_not, not_true_eq_false, not_false_eq_true, true_implies, false_implies, implies_true, Nat.reduceEqDiff, Nat.reduceAdd, Nat.reduceLeDiff, Nat.reduceSub, reduceCtorEq, reduceIte, b141_17, skX c1'.1, srX c1'.1, z31, nI_s]
  refine grw_I (st := []) mm_141 dX9_bind_28 ml_9_40 dX9_bind_31 fl_9_15 rfl (by unfold finOK; decide +kernel) (by omega) c1'.1 c1'.2.1 c1'.2.2 (c1'.1.1 40 (by decide)) (by decide) (c1'.1.2.1 40 1 rfl) (c1'.1.1 42 (by decide)) (by decide) (by decide) rt_s.2.1 (lL (by decide)) (by omega) (by omega) ?_
  generalize rmI h1 42 ((rSc z).length + 1) = h2 at *
  have c2' := H2.1.1.1
  have z32 : hI h2 40 3 = nI (rSc z).length := H2.1.2.2.2.2.1.1
  have l3 := (c2'.2.2.2.2 43 (by decide)).2
  obtain ⟨H3, m3⟩ := ch_gro (r := 43) (n := (rSc z).length + 1) cc H2 (by omega) (by omega) (by omega)
  have g43 := (gro_I c2'.1 (a := 43) (by decide) ((rSc z).length + 1)).1.2.2.2.2.1
  have e41' : hN (rmI h2 43 ((rSc z).length + 1)) 41 = hN h2 41 := (g43 41 (by decide) (by decide)).2.2
  have e42' : hN (rmI h2 43 ((rSc z).length + 1)) 42 = hN h2 42 := (g43 42 (by decide) (by decide)).2.2
  simp only [lv_args, z_v, z_lg, z_h, z_u, z_u1, z_c, z_ct, z_sk, sbne, lst1_d, ldel, lst2_d, ldel2, z_sw, z_rok, zi, eq_self, List.map_cons, List.map_nil, List.append_nil, List.nil_append, List.cons_append, Int32.reduceLT, Int32.reduceLE, Int32.reduceAdd, Int32.reduceSub, Int32.reduceMul, Int32.reduceToInt, Int32.reduceToNatClampNeg, Int.reduceLT, Int.reduceLE, Int.reduceNeg, true_and, and_true, or_self, or_false, false_or, false_and, and_false, true_or, or_true, if_true, if_false, ne_eq, Classical.not_not, not_true_eq_false, not_false_eq_true, true_implies, false_implies, implies_true, Nat.reduceEqDiff, Nat.reduceAdd, Nat.reduceLeDiff, Nat.reduceSub, reduceCtorEq, reduceIte, b141_34, skX c2'.1, srX c2'.1, z32, nI_s]
  refine grw_I (st := []) mm_141 dX9_bind_45 ml_9_40 dX9_bind_48 fl_9_18 rfl (by unfold finOK; decide +kernel) (by omega) c2'.1 c2'.2.1 c2'.2.2 (c2'.1.1 40 (by decide)) (by decide) (c2'.1.2.1 40 2 rfl) (c2'.1.1 43 (by decide)) (by decide) (by decide) rt_s.2.2.1 (lL (by decide)) (by omega) (by omega) ?_
  generalize rmI h2 43 ((rSc z).length + 1) = h3 at *
  have c3' := H3.1.1.1
  have s3 := c3'.1
  have m41 : (rSc z).length < hN h3 41 := by omega
  have m42 : (rSc z).length < hN h3 42 := by omega
  have m43 : (rSc z).length < hN h3 43 := by omega
  have hp := cc.1
  obtain ⟨⟨⟨cb, kx⟩, nn, da, ft, sc, pb, gx⟩, fm⟩ := H3
  obtain ⟨s1, s2, ⟨q3, q4, q5⟩, s6, s7, s8, s9⟩ := sc
  simp only [lv_args, z_v, z_lg, z_h, z_u, z_u1, z_c, z_ct, z_sk, sbne, lst1_d, ldel, lst2_d, ldel2, z_sw, z_rok, zi, eq_self, List.map_cons, List.map_nil, List.append_nil, List.nil_append, List.cons_append, Int32.reduceLT, Int32.reduceLE, Int32.reduceAdd, Int32.reduceSub, Int32.reduceMul, Int32.reduceToInt, Int32.reduceToNatClampNeg, Int.reduceLT, Int.reduceLE, Int.reduceNeg, true_and, and_true, or_self, or_false, false_or, false_and, and_false, true_or, or_true, if_true, if_false, ne_eq, Classical.not_not, not_true_eq_false, not_false_eq_true, true_implies, false_implies, implies_true, Nat.reduceEqDiff, Nat.reduceAdd, Nat.reduceLeDiff, Nat.reduceSub, reduceCtorEq, reduceIte, b141_51, skX s3, srX s3, s1, s7]
  simp (disch := omega) only [nI_ti, nI_cl, le0N, ltNN, nI_s, true_and]
  refine ⟨m41, m42, m43, ?_⟩
  try simp only [lv_args, z_v, z_lg, z_h, z_u, z_u1, z_c, z_ct, z_sk, sbne, lst1_d, ldel, lst2_d, ldel2, z_sw, z_rok, zi, eq_self, List.map_cons, List.map_nil, List.append_nil, List.nil_append, List.cons_append, Int32.reduceLT, Int32.reduceLE, Int32.reduceAdd, Int32.reduceSub, Int32.reduceMul, Int32.reduceToInt, Int32.reduceToNatClampNeg, Int.reduceLT, Int.reduceLE, Int.reduceNeg, true_and, and_true, or_self, or_false, false_or, false_and, and_false, true_or, or_true, if_true, if_false, ne_eq, Classical.not_not, not_true_eq_false, not_false_eq_true, true_implies, false_implies, implies_true, Nat.reduceEqDiff, Nat.reduceAdd, Nat.reduceLeDiff, Nat.reduceSub, reduceCtorEq, reduceIte, b141_51, skX s3]
  have len : (rSc (cBi j sl z)).length = (rSc z).length + 1 := by
    show (_ ++ [_]).length = _
    rw [List.length_append]; rfl
  refine hq _ ⟨⟨⟨cb_i (cb_a (cb_a (cb_a cb))), kx_I (kx_A (kx_A (kx_A kx (by unfold XP; omega)) (by unfold XP; omega)) (by unfold XP; omega)) (by unfold XP; omega)⟩, nn, da, ft, ?_, ?_, fun G => ?_⟩, fm⟩
  · refine ⟨by rw [len]; rfl, by omega, by rw [len]; exact ⟨m41, m42, m43⟩, fun i e he => ?_, s7, s8, s9⟩
    show upd (hA h3 41) (rSc z).length (nI j) i = nI e.1 ∧ upd (hA h3 43) (rSc z).length (nI (rBd z)) i = nI e.2.2 ∧ e.1 < 100000
    unfold upd
    rcases ap1_c (l := rSc z) he with ⟨a1, a2⟩ | ⟨a1, rfl⟩
    · rw [if_neg (by omega), if_neg (by omega)]
      exact s6 i e a2
    · rw [if_pos a1, if_pos a1]
      exact ⟨rfl, rfl, hj⟩
  · rcases hp with rfl | rfl <;> exact pb
  · have G0 : gd c1 c2 z := G
    obtain ⟨g1, g2, g3, g4⟩ := gx G0
    have g3' : ∀ (i : Nat) (e : SCe), (rSc (cBi j sl z))[i]? = some e → upd (hA h3 42) (rSc z).length v2 i = nI e.2.1 := fun i e he => by
      unfold upd
      rcases ap1_c (l := rSc z) he with ⟨a1, a2⟩ | ⟨a1, rfl⟩
      · rw [if_neg (by omega)]
        exact g3 i e a2
      · rw [if_pos a1]
        exact e2 G0
    rcases hp with rfl | rfl <;> exact ⟨g1, g2, g3', g4⟩
/-- bindings are left -/
theorem sp_unb {k : Nat} (cc : CC N mt K p c1 c2 h0) (H : CH N K p c1 c2 h0 op z h) (hk : k ≤ (rSc z).length) (hd : 0 < d) (hq : ∀ h', CH N K p c1 c2 h0 op (cUn k z) h' → Q none h') : aEv d 154 [.ref 40, .int (nI k)] h Q := by
  have hp := cc.1
  obtain ⟨⟨⟨cb, kx⟩, nn, da, ft, sc, pb, gx⟩, fm⟩ := H
  obtain ⟨s1, s2, ⟨q3, q4, q5⟩, s6, s7, s8, s9⟩ := sc
  have len : (rSc (cUn k z)).length = k := by
    show ((rSc z).take k).length = k
    rw [List.length_take]; omega
  have get : ∀ (i : Nat) (e : SCe), (rSc (cUn k z))[i]? = some e → (rSc z)[i]? = some e := fun i e he => by
    have he : ((rSc z).take k)[i]? = some e := he
    rw [List.getElem?_take] at he
    split at he
    · exact he
    · cases he
  have fin : ∀ v : Int32, v = nI k → Q none (pI h 40 3 v) := fun v ev => by
    subst ev
    refine hq _ ⟨⟨⟨cb_i cb, kx_I kx (by unfold XP; omega)⟩, nn, da, ft, ?_, ?_, fun G => ?_⟩, fm⟩
    · exact ⟨by rw [len]; rfl, by omega, by rw [len]; exact ⟨Nat.le_trans hk q3, Nat.le_trans hk q4, Nat.le_trans hk q5⟩, fun i e he => s6 i e (get i e he), s7, s8, s9⟩
    · rcases hp with rfl | rfl <;> exact pb
    · obtain ⟨g1, g2, g3, g4⟩ := gx G
      rcases hp with rfl | rfl <;> exact ⟨g1, g2, fun i e he => g3 i e (get i e he), g4⟩
  have z0 : (0 : Int32) = nI 0 := rfl
  rw [e154_40 _ _ cb.1, s1, z0]
  simp (disch := omega) only [nI_ltN]
  exact ⟨hd, fun c => ⟨hd, fun c3 => fin _ rfl, fun c3 => fin _ (by congr 1; omega)⟩, fun c => ⟨hd, fun c3 => fin _ (by congr 1; omega), fun c3 => fin _ (by congr 1; omega)⟩⟩
/-- a body is entered -/
theorem sp_enter (cc : CC N mt K p c1 c2 h0) (H : CH N K p c1 c2 h0 op z h) (hk : rBd z + 1 ≤ 31) (hq : ∀ h', CH N K p c1 c2 h0 op (cEn z) h' → Q none h') : aEv d 143 [.ref 40] h Q := by
  have hp := cc.1
  obtain ⟨⟨⟨cb, kx⟩, nn, da, ft, sc, pb, gx⟩, fm⟩ := H
  obtain ⟨s1, s2, q, s6, s7, s8, s9⟩ := sc
  have n45 : hN h 45 = 32 := cb.2.2.1.2 (45, 32) (by decide)
  have z32 : (32 : Int32) = nI 32 := rfl
  have x1 : (nI (rBd z + 1) < 0) = False := nI_lt0 (by omega)
  have x2 : (nI 32 ≤ nI (rBd z + 1)) = False := by rw [nI_leN (by omega) (by omega)]; exact eq_false (by omega)
  unfold aEv
  simp only [lv_args, z_v, z_lg, z_h, z_u, z_u1, z_c, z_ct, z_sk, sbne, lst1_d, ldel, lst2_d, ldel2, z_sw, z_rok, zi, eq_self, List.map_cons, List.map_nil, List.append_nil, List.nil_append, List.cons_append, Int32.reduceLT, Int32.reduceLE, Int32.reduceAdd, Int32.reduceSub, Int32.reduceMul, Int32.reduceToInt, Int32.reduceToNatClampNeg, Int.reduceLT, Int.reduceLE, Int.reduceNeg, true_and, and_true, or_self, or_false, false_or, false_and, and_false, true_or, or_true, if_true, if_false, ne_eq, Classical.not_not, not_true_eq_false, not_false_eq_true, true_implies, false_implies, implies_true, Nat.reduceEqDiff, Nat.reduceAdd, Nat.reduceLeDiff, Nat.reduceSub, reduceCtorEq, reduceIte, b143_0, skX cb.1, s7, nI_s, x1]
  simp only [lv_args, z_v, z_lg, z_h, z_u, z_u1, z_c, z_ct, z_sk, sbne, lst1_d, ldel, lst2_d, ldel2, z_sw, z_rok, zi, eq_self, List.map_cons, List.map_nil, List.append_nil, List.nil_append, List.cons_append, Int32.reduceLT, Int32.reduceLE, Int32.reduceAdd, Int32.reduceSub, Int32.reduceMul, Int32.reduceToInt, Int32.reduceToNatClampNeg, Int.reduceLT, Int.reduceLE, Int.reduceNeg, true_and, and_true, or_self, or_false, false_or, false_and, and_false, true_or, or_true, if_true, if_false, ne_eq, Classical.not_not, not_true_eq_false, not_false_eq_true, true_implies, false_implies, implies_true, Nat.reduceEqDiff, Nat.reduceAdd, Nat.reduceLeDiff, Nat.reduceSub, reduceCtorEq, reduceIte, b143_11, z32, x2]
  simp only [lv_args, z_v, z_lg, z_h, z_u, z_u1, z_c, z_ct, z_sk, sbne, lst1_d, ldel, lst2_d, ldel2, z_sw, z_rok, zi, eq_self, List.map_cons, List.map_nil, List.append_nil, List.nil_append, List.cons_append, Int32.reduceLT, Int32.reduceLE, Int32.reduceAdd, Int32.reduceSub, Int32.reduceMul, Int32.reduceToInt, Int32.reduceToNatClampNeg, Int.reduceLT, Int.reduceLE, Int.reduceNeg, true_and, and_true, or_self, or_false, false_or, false_and, and_false, true_or, or_true, if_true, if_false, ne_eq, Classical.not_not, not_true_eq_false, not_false_eq_true, true_implies, false_implies, implies_true, Nat.reduceEqDiff, Nat.reduceAdd, Nat.reduceLeDiff, Nat.reduceSub, reduceCtorEq, reduceIte, b143_17, b143_29, skX cb.1, srX cb.1]
  simp (disch := omega) only [nI_ti, nI_cl, le0N, ltNN, n45, true_and]
  refine ⟨by omega, ?_⟩
  try simp only [lv_args, z_v, z_lg, z_h, z_u, z_u1, z_c, z_ct, z_sk, sbne, lst1_d, ldel, lst2_d, ldel2, z_sw, z_rok, zi, eq_self, List.map_cons, List.map_nil, List.append_nil, List.nil_append, List.cons_append, Int32.reduceLT, Int32.reduceLE, Int32.reduceAdd, Int32.reduceSub, Int32.reduceMul, Int32.reduceToInt, Int32.reduceToNatClampNeg, Int.reduceLT, Int.reduceLE, Int.reduceNeg, true_and, and_true, or_self, or_false, false_or, false_and, and_false, true_or, or_true, if_true, if_false, ne_eq, Classical.not_not, not_true_eq_false, not_false_eq_true, true_implies, false_implies, implies_true, Nat.reduceEqDiff, Nat.reduceAdd, Nat.reduceLeDiff, Nat.reduceSub, reduceCtorEq, reduceIte, b143_17, b143_29, skX cb.1]
  refine hq _ ⟨⟨⟨cb_a (cb_i cb), kx_A (kx_I kx (by unfold XP; omega)) (by unfold XP; omega)⟩, nn, da, ft, ?_, ?_, fun G => ?_⟩, fm⟩
  · refine ⟨s1, s2, q, s6, rfl, hk, fun l hl => ?_⟩
    have hl : l ≤ rBd z + 1 := hl
    show upd (hA h 45) (rBd z + 1) 0 l = nI (if l = rBd z + 1 then [] else rKp z l).length ∧ (if l = rBd z + 1 then [] else rKp z l).length ≤ 248 ∧ ∀ j b : Nat, (if l = rBd z + 1 then [] else rKp z l)[j]? = some b → 248 * l + j < hN h 44 ∧ hA h 44 (248 * l + j) = nI b
    unfold upd
    by_cases c : l = rBd z + 1
    · rw [if_pos c, if_pos c]
      exact ⟨rfl, Nat.zero_le _, fun j b e => by simp at e⟩
    · rw [if_neg c, if_neg c]
      exact s9 l (by omega)
  · rcases hp with rfl | rfl <;> exact pb
  · obtain ⟨g1, g2, g3, g4⟩ := gx G
    rcases hp with rfl | rfl <;> exact ⟨g1, g2, g3, g4⟩
theorem sp_leave (cc : CC N mt K p c1 c2 h0) (H : CH N K p c1 c2 h0 op z h) (hk : 1 ≤ rBd z) (hq : ∀ h', CH N K p c1 c2 h0 op (cLv z) h' → Q none h') : aEv d 151 [.ref 40] h Q := by
  have hp := cc.1
  obtain ⟨⟨⟨cb, kx⟩, nn, da, ft, sc, pb, gx⟩, fm⟩ := H
  obtain ⟨s1, s2, q, s6, s7, s8, s9⟩ := sc
  have ez : nI (rBd z) - 1 = nI (rBd z - 1) := by
    have : rBd z = rBd z - 1 + 1 := by omega
    rw [this, nI_m1]; rfl
  rw [e151_40 _ _ cb.1, s7, le_0N (by omega), ez]
  refine ⟨fun c => absurd c (by omega), fun _ => hq _ ⟨⟨⟨cb_i cb, kx_I kx (by unfold XP; omega)⟩, nn, da, ft, ?_, ?_, fun G => ?_⟩, fm⟩⟩
  · exact ⟨s1, s2, q, s6, rfl, by show rBd z - 1 ≤ 31; omega, fun l hl => s9 l (by have hl : l ≤ rBd z - 1 := hl; omega)⟩
  · rcases hp with rfl | rfl <;> exact pb
  · obtain ⟨g1, g2, g3, g4⟩ := gx G
    rcases hp with rfl | rfl <;> exact ⟨g1, g2, g3, g4⟩
theorem i32_dec (a : Int32) : a + -1 = a - 1 := (Int32.sub_eq_add_neg a 1).symm
/-- the innermost binding of a name -/
def fdU (j : Nat) (sc : List SCe) (k : Nat) : Option Nat := (List.range k).reverse.find? (fun i => (sc.getD i (0, 0, 0)).1 == j)
theorem fdU_s {j k : Nat} {sc : List SCe} : fdU j sc (k + 1) = if (sc.getD k (0, 0, 0)).1 = j then some k else fdU j sc k := by
  unfold fdU
  rw [List.range_succ, List.reverse_append, List.reverse_cons, List.reverse_nil, List.nil_append, List.cons_append, List.nil_append, List.find?_cons]
  by_cases c : (sc.getD k (0, 0, 0)).1 = j
  · rw [if_pos c]
    have : ((sc.getD k (0, 0, 0)).1 == j) = true := by simpa using c
    rw [this]
  · rw [if_neg c]
    have : ((sc.getD k (0, 0, 0)).1 == j) = false := by simpa using c
    rw [this]
theorem gdD {α : Type} {l : List α} {i : Nat} {x : α} (h : i < l.length) : l[i]? = some (l.getD i x) := by
  rw [List.getD_eq_getElem?_getD, List.getElem?_eq_getElem h]; rfl
theorem sp_find {j : Nat} (s : Sk h) (sc : SCx z h) (hj : j < 100000) (hq : Q (some (.int (oI (cFd j (rSc z))))) h) : aEv d 144 [.ref 40, .int (nI j)] h Q := by
  obtain ⟨s1, s2, ⟨q3, q4, q5⟩, s6, s7, s8, s9⟩ := sc
  have loop : ∀ k, k ≤ (rSc z).length → Q (some (.int (oI (fdU j (rSc z) k)))) h → aWP d 144 7 [(2, .int (nI k - 1)), (0, .ref 40), (1, .int (nI j))] [] h Q := by
    intro k
    induction k with
    | zero =>
      intro _ q
      have c : (nI 0 - 1 < 0) = True := eq_true (by decide)
      have q : Q (some (.int (-1))) h := q
      simp only [lv_args, z_v, z_lg, z_h, z_u, z_u1, z_c, z_ct, z_sk, sbne, lst1_d, ldel, lst2_d, ldel2, z_sw, z_rok, zi, eq_self, List.map_cons, List.map_nil, List.append_nil, List.nil_append, List.cons_append, Int32.reduceLT, Int32.reduceLE, Int32.reduceAdd, Int32.reduceSub, Int32.reduceMul, Int32.reduceToInt, Int32.reduceToNatClampNeg, Int.reduceLT, Int.reduceLE, Int.reduceNeg, true_and, and_true, or_self, or_false, false_or, false_and, and_false, true_or, or_true, if_true, if_false, ne_eq, Classical.not_not, not_true_eq_false, not_false_eq_true, true_implies, false_implies, implies_true, Nat.reduceEqDiff, Nat.reduceAdd, Nat.reduceLeDiff, Nat.reduceSub, reduceCtorEq, reduceIte, b144_7, c]
      simp only [lv_args, z_v, z_lg, z_h, z_u, z_u1, z_c, z_ct, z_sk, sbne, lst1_d, ldel, lst2_d, ldel2, z_sw, z_rok, zi, eq_self, List.map_cons, List.map_nil, List.append_nil, List.nil_append, List.cons_append, Int32.reduceLT, Int32.reduceLE, Int32.reduceAdd, Int32.reduceSub, Int32.reduceMul, Int32.reduceToInt, Int32.reduceToNatClampNeg, Int.reduceLT, Int.reduceLE, Int.reduceNeg, true_and, and_true, or_self, or_false, false_or, false_and, and_false, true_or, or_true, if_true, if_false, ne_eq, Classical.not_not, not_true_eq_false, not_false_eq_true, true_implies, false_implies, implies_true, Nat.reduceEqDiff, Nat.reduceAdd, Nat.reduceLeDiff, Nat.reduceSub, reduceCtorEq, reduceIte, b144_29]
      exact q
    | succ k ih =>
      intro hk q
      rw [fdU_s] at q
      have e := s6 k _ (gdD (x := (0, 0, 0)) (by omega))
      have c3 : (k < hN h 41) = True := eq_true (by omega)
      rw [nI_m1]
      simp (disch := omega) only [lv_args, z_v, z_lg, z_h, z_u, z_u1, z_c, z_ct, z_sk, sbne, lst1_d, ldel, lst2_d, ldel2, z_sw, z_rok, zi, eq_self, List.map_cons, List.map_nil, List.append_nil, List.nil_append, List.cons_append, Int32.reduceLT, Int32.reduceLE, Int32.reduceAdd, Int32.reduceSub, Int32.reduceMul, Int32.reduceToInt, Int32.reduceToNatClampNeg, Int.reduceLT, Int.reduceLE, Int.reduceNeg, true_and, and_true, or_self, or_false, false_or, false_and, and_false, true_or, or_true, if_true, if_false, ne_eq, Classical.not_not, not_true_eq_false, not_false_eq_true, true_implies, false_implies, implies_true, Nat.reduceEqDiff, Nat.reduceAdd, Nat.reduceLeDiff, Nat.reduceSub, reduceCtorEq, reduceIte, b144_7, nI_lt0]
      simp only [lv_args, z_v, z_lg, z_h, z_u, z_u1, z_c, z_ct, z_sk, sbne, lst1_d, ldel, lst2_d, ldel2, z_sw, z_rok, zi, eq_self, List.map_cons, List.map_nil, List.append_nil, List.nil_append, List.cons_append, Int32.reduceLT, Int32.reduceLE, Int32.reduceAdd, Int32.reduceSub, Int32.reduceMul, Int32.reduceToInt, Int32.reduceToNatClampNeg, Int.reduceLT, Int.reduceLE, Int.reduceNeg, true_and, and_true, or_self, or_false, false_or, false_and, and_false, true_or, or_true, if_true, if_false, ne_eq, Classical.not_not, not_true_eq_false, not_false_eq_true, true_implies, false_implies, implies_true, Nat.reduceEqDiff, Nat.reduceAdd, Nat.reduceLeDiff, Nat.reduceSub, reduceCtorEq, reduceIte, b144_11, skX s, srX s]
      simp (disch := omega) only [nI_ti, nI_cl, le0N, ltNN, c3, e.1, nI_eqN, true_and]
      refine ⟨fun c => ?_, fun c => ?_⟩
      · rw [if_neg c] at q
        have := ih (by omega) q
        simp only [lv_args, z_v, z_lg, z_h, z_u, z_u1, z_c, z_ct, z_sk, sbne, lst1_d, ldel, lst2_d, ldel2, z_sw, z_rok, zi, eq_self, List.map_cons, List.map_nil, List.append_nil, List.nil_append, List.cons_append, Int32.reduceLT, Int32.reduceLE, Int32.reduceAdd, Int32.reduceSub, Int32.reduceMul, Int32.reduceToInt, Int32.reduceToNatClampNeg, Int.reduceLT, Int.reduceLE, Int.reduceNeg, true_and, and_true, or_self, or_false, false_or, false_and, and_false, true_or, or_true, if_true, if_false, ne_eq, Classical.not_not, not_true_eq_false, not_false_eq_true, true_implies, false_implies, implies_true, Nat.reduceEqDiff, Nat.reduceAdd, Nat.reduceLeDiff, Nat.reduceSub, reduceCtorEq, reduceIte, b144_23, i32_dec]
        exact this
      · rw [if_pos c] at q
        simp only [lv_args, z_v, z_lg, z_h, z_u, z_u1, z_c, z_ct, z_sk, sbne, lst1_d, ldel, lst2_d, ldel2, z_sw, z_rok, zi, eq_self, List.map_cons, List.map_nil, List.append_nil, List.nil_append, List.cons_append, Int32.reduceLT, Int32.reduceLE, Int32.reduceAdd, Int32.reduceSub, Int32.reduceMul, Int32.reduceToInt, Int32.reduceToNatClampNeg, Int.reduceLT, Int.reduceLE, Int.reduceNeg, true_and, and_true, or_self, or_false, false_or, false_and, and_false, true_or, or_true, if_true, if_false, ne_eq, Classical.not_not, not_true_eq_false, not_false_eq_true, true_implies, false_implies, implies_true, Nat.reduceEqDiff, Nat.reduceAdd, Nat.reduceLeDiff, Nat.reduceSub, reduceCtorEq, reduceIte, b144_21]
        exact q
  have fin := loop (rSc z).length (Nat.le_refl _) hq
  unfold aEv
  simp only [lv_args, z_v, z_lg, z_h, z_u, z_u1, z_c, z_ct, z_sk, sbne, lst1_d, ldel, lst2_d, ldel2, z_sw, z_rok, zi, eq_self, List.map_cons, List.map_nil, List.append_nil, List.nil_append, List.cons_append, Int32.reduceLT, Int32.reduceLE, Int32.reduceAdd, Int32.reduceSub, Int32.reduceMul, Int32.reduceToInt, Int32.reduceToNatClampNeg, Int.reduceLT, Int.reduceLE, Int.reduceNeg, true_and, and_true, or_self, or_false, false_or, false_and, and_false, true_or, or_true, if_true, if_false, ne_eq, Classical.not_not, not_true_eq_false, not_false_eq_true, true_implies, false_implies, implies_true, Nat.reduceEqDiff, Nat.reduceAdd, Nat.reduceLeDiff, Nat.reduceSub, reduceCtorEq, reduceIte, b144_0, skX s, s1]
  exact fin
/-- the body that a binding belongs to; its place on the stack -/
theorem sp_owner {b : Nat} (s : Sk h) (sc : SCx z h) (hb : b < (rSc z).length) (hq : Q (some (.int (nI ((rSc z).getD b (0, 0, 0)).2.2))) h) : aEv d 289 [.ref 40, .int (nI b)] h Q := by
  obtain ⟨s1, s2, ⟨q3, q4, q5⟩, s6, s7, s8, s9⟩ := sc
  have w2 := (s6 b _ (gdD (x := ((0, 0, 0) : SCe)) hb)).2.1
  have x1 : (nI b < 0) = False := nI_lt0 (by omega)
  have x2 : (nI (rSc z).length ≤ nI b) = False := by rw [nI_leN (by omega) (by omega)]; exact eq_false (by omega)
  unfold aEv
  simp only [lv_args, z_v, z_lg, z_h, z_u, z_u1, z_c, z_ct, z_sk, sbne, lst1_d, ldel, lst2_d, ldel2, z_sw, z_rok, zi, eq_self, List.map_cons, List.map_nil, List.append_nil, List.nil_append, List.cons_append, Int32.reduceLT, Int32.reduceLE, Int32.reduceAdd, Int32.reduceSub, Int32.reduceMul, Int32.reduceToInt, Int32.reduceToNatClampNeg, Int.reduceLT, Int.reduceLE, Int.reduceNeg, true_and, and_true, or_self, or_false, false_or, false_and, and_false, true_or, or_true, if_true, if_false, ne_eq, Classical.not_not, not_true_eq_false, not_false_eq_true, true_implies, false_implies, implies_true, Nat.reduceEqDiff, Nat.reduceAdd, Nat.reduceLeDiff, Nat.reduceSub, reduceCtorEq, reduceIte, b289_0, x1]
  simp only [lv_args, z_v, z_lg, z_h, z_u, z_u1, z_c, z_ct, z_sk, sbne, lst1_d, ldel, lst2_d, ldel2, z_sw, z_rok, zi, eq_self, List.map_cons, List.map_nil, List.append_nil, List.nil_append, List.cons_append, Int32.reduceLT, Int32.reduceLE, Int32.reduceAdd, Int32.reduceSub, Int32.reduceMul, Int32.reduceToInt, Int32.reduceToNatClampNeg, Int.reduceLT, Int.reduceLE, Int.reduceNeg, true_and, and_true, or_self, or_false, false_or, false_and, and_false, true_or, or_true, if_true, if_false, ne_eq, Classical.not_not, not_true_eq_false, not_false_eq_true, true_implies, false_implies, implies_true, Nat.reduceEqDiff, Nat.reduceAdd, Nat.reduceLeDiff, Nat.reduceSub, reduceCtorEq, reduceIte, b289_4, skX s, s1, x2]
  simp only [lv_args, z_v, z_lg, z_h, z_u, z_u1, z_c, z_ct, z_sk, sbne, lst1_d, ldel, lst2_d, ldel2, z_sw, z_rok, zi, eq_self, List.map_cons, List.map_nil, List.append_nil, List.nil_append, List.cons_append, Int32.reduceLT, Int32.reduceLE, Int32.reduceAdd, Int32.reduceSub, Int32.reduceMul, Int32.reduceToInt, Int32.reduceToNatClampNeg, Int.reduceLT, Int.reduceLE, Int.reduceNeg, true_and, and_true, or_self, or_false, false_or, false_and, and_false, true_or, or_true, if_true, if_false, ne_eq, Classical.not_not, not_true_eq_false, not_false_eq_true, true_implies, false_implies, implies_true, Nat.reduceEqDiff, Nat.reduceAdd, Nat.reduceLeDiff, Nat.reduceSub, reduceCtorEq, reduceIte, b289_12, b289_25, skX s, srX s]
  simp (disch := omega) only [nI_ti, nI_cl, le0N, ltNN, w2, true_and]
  refine ⟨by omega, ?_⟩
  try simp only [lv_args, z_v, z_lg, z_h, z_u, z_u1, z_c, z_ct, z_sk, sbne, lst1_d, ldel, lst2_d, ldel2, z_sw, z_rok, zi, eq_self, List.map_cons, List.map_nil, List.append_nil, List.nil_append, List.cons_append, Int32.reduceLT, Int32.reduceLE, Int32.reduceAdd, Int32.reduceSub, Int32.reduceMul, Int32.reduceToInt, Int32.reduceToNatClampNeg, Int.reduceLT, Int.reduceLE, Int.reduceNeg, true_and, and_true, or_self, or_false, false_or, false_and, and_false, true_or, or_true, if_true, if_false, ne_eq, Classical.not_not, not_true_eq_false, not_false_eq_true, true_implies, false_implies, implies_true, Nat.reduceEqDiff, Nat.reduceAdd, Nat.reduceLeDiff, Nat.reduceSub, reduceCtorEq, reduceIte, b289_12, b289_25]
  exact hq
theorem sp_slot {b : Nat} (s : Sk h) (sc : SCx z h) (hb : b < (rSc z).length) (hq : Q (some (.int (hA h 42 b))) h) : aEv d 152 [.ref 40, .int (nI b)] h Q := by
  obtain ⟨s1, s2, ⟨q3, q4, q5⟩, s6, s7, s8, s9⟩ := sc
  have x1 : (nI b < 0) = False := nI_lt0 (by omega)
  have x2 : (nI (rSc z).length ≤ nI b) = False := by rw [nI_leN (by omega) (by omega)]; exact eq_false (by omega)
  unfold aEv
  simp only [lv_args, z_v, z_lg, z_h, z_u, z_u1, z_c, z_ct, z_sk, sbne, lst1_d, ldel, lst2_d, ldel2, z_sw, z_rok, zi, eq_self, List.map_cons, List.map_nil, List.append_nil, List.nil_append, List.cons_append, Int32.reduceLT, Int32.reduceLE, Int32.reduceAdd, Int32.reduceSub, Int32.reduceMul, Int32.reduceToInt, Int32.reduceToNatClampNeg, Int.reduceLT, Int.reduceLE, Int.reduceNeg, true_and, and_true, or_self, or_false, false_or, false_and, and_false, true_or, or_true, if_true, if_false, ne_eq, Classical.not_not, not_true_eq_false, not_false_eq_true, true_implies, false_implies, implies_true, Nat.reduceEqDiff, Nat.reduceAdd, Nat.reduceLeDiff, Nat.reduceSub, reduceCtorEq, reduceIte, b152_0, x1]
  simp only [lv_args, z_v, z_lg, z_h, z_u, z_u1, z_c, z_ct, z_sk, sbne, lst1_d, ldel, lst2_d, ldel2, z_sw, z_rok, zi, eq_self, List.map_cons, List.map_nil, List.append_nil, List.nil_append, List.cons_append, Int32.reduceLT, Int32.reduceLE, Int32.reduceAdd, Int32.reduceSub, Int32.reduceMul, Int32.reduceToInt, Int32.reduceToNatClampNeg, Int.reduceLT, Int.reduceLE, Int.reduceNeg, true_and, and_true, or_self, or_false, false_or, false_and, and_false, true_or, or_true, if_true, if_false, ne_eq, Classical.not_not, not_true_eq_false, not_false_eq_true, true_implies, false_implies, implies_true, Nat.reduceEqDiff, Nat.reduceAdd, Nat.reduceLeDiff, Nat.reduceSub, reduceCtorEq, reduceIte, b152_4, skX s, s1, x2]
  simp only [lv_args, z_v, z_lg, z_h, z_u, z_u1, z_c, z_ct, z_sk, sbne, lst1_d, ldel, lst2_d, ldel2, z_sw, z_rok, zi, eq_self, List.map_cons, List.map_nil, List.append_nil, List.nil_append, List.cons_append, Int32.reduceLT, Int32.reduceLE, Int32.reduceAdd, Int32.reduceSub, Int32.reduceMul, Int32.reduceToInt, Int32.reduceToNatClampNeg, Int.reduceLT, Int.reduceLE, Int.reduceNeg, true_and, and_true, or_self, or_false, false_or, false_and, and_false, true_or, or_true, if_true, if_false, ne_eq, Classical.not_not, not_true_eq_false, not_false_eq_true, true_implies, false_implies, implies_true, Nat.reduceEqDiff, Nat.reduceAdd, Nat.reduceLeDiff, Nat.reduceSub, reduceCtorEq, reduceIte, b152_12, b152_22, skX s, srX s]
  simp (disch := omega) only [nI_ti, nI_cl, le0N, ltNN, true_and]
  refine ⟨by omega, ?_⟩
  try simp only [lv_args, z_v, z_lg, z_h, z_u, z_u1, z_c, z_ct, z_sk, sbne, lst1_d, ldel, lst2_d, ldel2, z_sw, z_rok, zi, eq_self, List.map_cons, List.map_nil, List.append_nil, List.nil_append, List.cons_append, Int32.reduceLT, Int32.reduceLE, Int32.reduceAdd, Int32.reduceSub, Int32.reduceMul, Int32.reduceToInt, Int32.reduceToNatClampNeg, Int.reduceLT, Int.reduceLE, Int.reduceNeg, true_and, and_true, or_self, or_false, false_or, false_and, and_false, true_or, or_true, if_true, if_false, ne_eq, Classical.not_not, not_true_eq_false, not_false_eq_true, true_implies, false_implies, implies_true, Nat.reduceEqDiff, Nat.reduceAdd, Nat.reduceLeDiff, Nat.reduceSub, reduceCtorEq, reduceIte, b152_12, b152_22]
  exact hq
theorem sp_isOwn {b : Nat} (s : Sk h) (sc : SCx z h) (hb : b < (rSc z).length) (ho : ((rSc z).getD b (0, 0, 0)).2.2 ≤ 1000) (hd : 0 < d) (hq : Q (some (.int (if ((rSc z).getD b (0, 0, 0)).2.2 = rBd z then 1 else 0))) h) : aEv d 147 [.ref 40, .int (nI b)] h Q := by
  have e4 := sc.2.2.2.2.1
  have bd31 := sc.2.2.2.2.2.1
  unfold aEv
  simp only [lv_args, z_v, z_lg, z_h, z_u, z_u1, z_c, z_ct, z_sk, sbne, lst1_d, ldel, lst2_d, ldel2, z_sw, z_rok, zi, eq_self, List.map_cons, List.map_nil, List.append_nil, List.nil_append, List.cons_append, Int32.reduceLT, Int32.reduceLE, Int32.reduceAdd, Int32.reduceSub, Int32.reduceMul, Int32.reduceToInt, Int32.reduceToNatClampNeg, Int.reduceLT, Int.reduceLE, Int.reduceNeg, true_and, and_true, or_self, or_false, false_or, false_and, and_false, true_or, or_true, if_true, if_false, ne_eq, Classical.not_not, not_true_eq_false, not_false_eq_true, true_implies, false_implies, implies_true, Nat.reduceEqDiff, Nat.reduceAdd, Nat.reduceLeDiff, Nat.reduceSub, reduceCtorEq, reduceIte, b147_0, skX s, hd]
  refine sp_owner s sc hb ?_
  simp only [lv_args, z_v, z_lg, z_h, z_u, z_u1, z_c, z_ct, z_sk, sbne, lst1_d, ldel, lst2_d, ldel2, z_sw, z_rok, zi, eq_self, List.map_cons, List.map_nil, List.append_nil, List.nil_append, List.cons_append, Int32.reduceLT, Int32.reduceLE, Int32.reduceAdd, Int32.reduceSub, Int32.reduceMul, Int32.reduceToInt, Int32.reduceToNatClampNeg, Int.reduceLT, Int.reduceLE, Int.reduceNeg, true_and, and_true, or_self, or_false, false_or, false_and, and_false, true_or, or_true, if_true, if_false, ne_eq, Classical.not_not, not_true_eq_false, not_false_eq_true, true_implies, false_implies, implies_true, Nat.reduceEqDiff, Nat.reduceAdd, Nat.reduceLeDiff, Nat.reduceSub, reduceCtorEq, reduceIte, b147_0, skX s, e4]
  simp (disch := omega) only [nI_eqN]
  by_cases c : ((rSc z).getD b (0, 0, 0)).2.2 = rBd z
  · rw [if_pos c] at hq
    simp only [c, not_true_eq_false, false_imp_iff, true_imp_iff, true_and]
    simp only [lv_args, z_v, z_lg, z_h, z_u, z_u1, z_c, z_ct, z_sk, sbne, lst1_d, ldel, lst2_d, ldel2, z_sw, z_rok, zi, eq_self, List.map_cons, List.map_nil, List.append_nil, List.nil_append, List.cons_append, Int32.reduceLT, Int32.reduceLE, Int32.reduceAdd, Int32.reduceSub, Int32.reduceMul, Int32.reduceToInt, Int32.reduceToNatClampNeg, Int.reduceLT, Int.reduceLE, Int.reduceNeg, true_and, and_true, or_self, or_false, false_or, false_and, and_false, true_or, or_true, if_true, if_false, ne_eq, Classical.not_not, not_true_eq_false, not_false_eq_true, true_implies, false_implies, implies_true, Nat.reduceEqDiff, Nat.reduceAdd, Nat.reduceLeDiff, Nat.reduceSub, reduceCtorEq, reduceIte, b147_12, b147_17]
    exact hq
  · rw [if_neg c] at hq
    simp only [c, not_false_eq_true, true_imp_iff, false_imp_iff, and_true]
    simp only [lv_args, z_v, z_lg, z_h, z_u, z_u1, z_c, z_ct, z_sk, sbne, lst1_d, ldel, lst2_d, ldel2, z_sw, z_rok, zi, eq_self, List.map_cons, List.map_nil, List.append_nil, List.nil_append, List.cons_append, Int32.reduceLT, Int32.reduceLE, Int32.reduceAdd, Int32.reduceSub, Int32.reduceMul, Int32.reduceToInt, Int32.reduceToNatClampNeg, Int.reduceLT, Int.reduceLE, Int.reduceNeg, true_and, and_true, or_self, or_false, false_or, false_and, and_false, true_or, or_true, if_true, if_false, ne_eq, Classical.not_not, not_true_eq_false, not_false_eq_true, true_implies, false_implies, implies_true, Nat.reduceEqDiff, Nat.reduceAdd, Nat.reduceLeDiff, Nat.reduceSub, reduceCtorEq, reduceIte, b147_16, b147_17]
    exact hq
/-- how many bindings this body keeps -/
theorem e149k {bd : Nat} (s : Sk h) (e4 : hI h 40 4 = nI bd) (hb : bd < 32) (n45 : hN h 45 = 32) (d : Nat) (Q : Option Value → Hp → Prop) : aEv d 149 [.ref 40] h Q ↔ Q (some (.int (hA h 45 bd))) h := by
  have z32 : (32 : Int32) = nI 32 := rfl
  have x1 : (nI bd < 0) = False := nI_lt0 (by omega)
  have x2 : (nI 32 ≤ nI bd) = False := by rw [nI_leN (by omega) (by omega)]; exact eq_false (by omega)
  unfold aEv
  simp only [lv_args, z_v, z_lg, z_h, z_u, z_u1, z_c, z_ct, z_sk, sbne, lst1_d, ldel, lst2_d, ldel2, z_sw, z_rok, zi, eq_self, List.map_cons, List.map_nil, List.append_nil, List.nil_append, List.cons_append, Int32.reduceLT, Int32.reduceLE, Int32.reduceAdd, Int32.reduceSub, Int32.reduceMul, Int32.reduceToInt, Int32.reduceToNatClampNeg, Int.reduceLT, Int.reduceLE, Int.reduceNeg, true_and, and_true, or_self, or_false, false_or, false_and, and_false, true_or, or_true, if_true, if_false, ne_eq, Classical.not_not, not_true_eq_false, not_false_eq_true, true_implies, false_implies, implies_true, Nat.reduceEqDiff, Nat.reduceAdd, Nat.reduceLeDiff, Nat.reduceSub, reduceCtorEq, reduceIte, b149_0, skX s, e4, x1]
  simp only [lv_args, z_v, z_lg, z_h, z_u, z_u1, z_c, z_ct, z_sk, sbne, lst1_d, ldel, lst2_d, ldel2, z_sw, z_rok, zi, eq_self, List.map_cons, List.map_nil, List.append_nil, List.nil_append, List.cons_append, Int32.reduceLT, Int32.reduceLE, Int32.reduceAdd, Int32.reduceSub, Int32.reduceMul, Int32.reduceToInt, Int32.reduceToNatClampNeg, Int.reduceLT, Int.reduceLE, Int.reduceNeg, true_and, and_true, or_self, or_false, false_or, false_and, and_false, true_or, or_true, if_true, if_false, ne_eq, Classical.not_not, not_true_eq_false, not_false_eq_true, true_implies, false_implies, implies_true, Nat.reduceEqDiff, Nat.reduceAdd, Nat.reduceLeDiff, Nat.reduceSub, reduceCtorEq, reduceIte, b149_7, skX s, e4, z32, x2]
  simp only [lv_args, z_v, z_lg, z_h, z_u, z_u1, z_c, z_ct, z_sk, sbne, lst1_d, ldel, lst2_d, ldel2, z_sw, z_rok, zi, eq_self, List.map_cons, List.map_nil, List.append_nil, List.nil_append, List.cons_append, Int32.reduceLT, Int32.reduceLE, Int32.reduceAdd, Int32.reduceSub, Int32.reduceMul, Int32.reduceToInt, Int32.reduceToNatClampNeg, Int.reduceLT, Int.reduceLE, Int.reduceNeg, true_and, and_true, or_self, or_false, false_or, false_and, and_false, true_or, or_true, if_true, if_false, ne_eq, Classical.not_not, not_true_eq_false, not_false_eq_true, true_implies, false_implies, implies_true, Nat.reduceEqDiff, Nat.reduceAdd, Nat.reduceLeDiff, Nat.reduceSub, reduceCtorEq, reduceIte, b149_16, b149_29, skX s, srX s, e4]
  simp (disch := omega) only [nI_ti, nI_cl, le0N, ltNN, n45, true_and]
  exact ⟨fun w => w.2, fun w => ⟨hb, w⟩⟩
end CSC
