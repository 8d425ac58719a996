/-! BUILD. A lambda comes to its end -/
theorem rt_so : (∀ e, e ∈ RTl → e.2 = 28 → e.1 = (19, 10)) ∧ (∀ e, e ∈ RTl → e.2 = 38 → e.1 = (29, 10)) := by decide +kernel
def zEl (m en i : Nat) (z : CR) : CR := ((rCd z, rDt z, (rLm z).set m (en, ((rLm z).getD m (0, 0, 0, 0, [])).2.1, rDx z, (rSr z).length, rKp z (rBd z)), rSr z ++ ((rKp z (rBd z)).take i).map (cSo z)), z.2)
section CED
variable {h h' h0 : Hp} {Q : Option Value → Hp → Prop} {d p c1 c2 n : Nat} {N : NS} {mt op : List Nat} {K : List KY} {z : CR}
theorem ch_gro9 (cc : CC N mt K p c1 c2 h0) (H : CH N K p c1 c2 h0 op z h) (hn1 : n ≤ 30000) : CH N K p c1 c2 h0 op z (rmI h (p + 9) n) ∧ n ≤ hN (rmI h (p + 9) n) (p + 9) := by
  obtain ⟨⟨⟨cb, kx⟩, nn, da, ft, sc, pb, gx⟩, fm⟩ := H
  have hp := cc.1
  have hg : p + 9 ∈ GLs := by rcases hp with rfl | rfl <;> decide
  have hcp : cpR (p + 9) = 62000 := by rcases hp with rfl | rfl <;> rfl
  obtain ⟨c1', m1, g1, g2⟩ := cb_I (n := n) cb (r := p + 9) hg (by omega) (by omega) (by omega)
  have gI := g1.2.1
  have gO := g1.2.2.2.2.1
  have gN : hN h (p + 9) ≤ hN (rmI h (p + 9) n) (p + 9) := g1.2.2.2.2.2.2.1
  have kx1 := kx_G kx g1 (by unfold XP; omega)
  generalize rmI h (p + 9) n = H at *
  have eq1 : ∀ a, a < 130 → a ≠ p + 9 → hA H a = hA h a ∧ hB H a = hB h a ∧ hN H a = hN h a := fun a ha c => gO a ha c
  refine ⟨⟨⟨⟨c1', kx1⟩, ?_, ?_, ?_, ?_, ?_, fun G => ?_⟩, ?_⟩, m1⟩
  · rw [(eq1 (p + 1) (by omega) (by omega)).2.2, (eq1 (p + 3) (by omega) (by omega)).2.2]
    exact nn
  · unfold DAx
    rw [(eq1 46 (by omega) (by omega)).1, (eq1 46 (by omega) (by omega)).2.2]
    exact da
  · unfold FTx
    rw [gI]; exact ft
  · unfold SCx KPx
    rw [gI, (eq1 41 (by omega) (by omega)).1, (eq1 43 (by omega) (by omega)).1, (eq1 44 (by omega) (by omega)).1, (eq1 45 (by omega) (by omega)).1, (eq1 41 (by omega) (by omega)).2.2, (eq1 42 (by omega) (by omega)).2.2, (eq1 43 (by omega) (by omega)).2.2, (eq1 44 (by omega) (by omega)).2.2]
    exact sc
  · obtain ⟨b1, b2, b3, s, b4, b5, b6⟩ := pb
    unfold PBx
    rw [gI, (eq1 (p + 1) (by omega) (by omega)).2.2, (eq1 (p + 3) (by omega) (by omega)).2.2]
    exact ⟨b1, b2, b3, s, b4, b5, Nat.le_trans b6 gN⟩
  · obtain ⟨b1, b2, b3, s, b4, b5, b6⟩ := pb
    obtain ⟨g1', g2', g3', g4', g5', g6', g7', g8', g9', g11', g10'⟩ := gx G
    unfold GDx
    rw [gI, (eq1 42 (by omega) (by omega)).1, (eq1 (p + 1) (by omega) (by omega)).1, (eq1 (p + 2) (by omega) (by omega)).1, (eq1 (p + 3) (by omega) (by omega)).2.1, (eq1 (p + 4) (by omega) (by omega)).1, (eq1 (p + 5) (by omega) (by omega)).1, (eq1 (p + 6) (by omega) (by omega)).1, (eq1 (p + 7) (by omega) (by omega)).1, (eq1 (p + 8) (by omega) (by omega)).1]
    refine ⟨g1', g2', g3', g4', g5', g6', g7', g8', g9', g11', fun i x he => ?_⟩
    have hi := g_lt he
    have es : s = (rSr z).length := nI_inj (by have := b3.2.1; omega) (by omega) (b4.symm.trans g9')
    rw [g2 i (by omega)]
    exact g10' i x he
  · rw [gI]; exact fm
/-- the loop that puts the sources behind the others -/
theorem el_loop {m en s0 : Nat} {en' dx' : Int32} (cc : CC N mt K p c1 c2 h0) (hk : KI z.2.1) (hb1 : 1 ≤ rBd z) (hs : s0 + 248 * (op.length + 1) ≤ 248 * (rLm z).length) (hm : m < (rLm z).length) (hd : 3 < d) (hq : ∀ h', CH N K p c1 c2 h0 op (zEl m en (rKp z (rBd z)).length z) h' → Q none h') :
    ∀ (r i : Nat) (h : Hp), i + r = (rKp z (rBd z)).length → CH N K p c1 c2 h0 op (zEl m en i z) h → hI h p 11 = nI (s0 + i) → s0 + (rKp z (rBd z)).length ≤ hN h (p + 9) → aWP d 98 72 [(5, .int (nI i)), (0, .ref p), (1, .int (nI m)), (2, .int en'), (3, .int dx'), (4, .ref 40)] [] h Q := by
  have h00 : 0 < d := by omega
  have hp := cc.1
  intro r
  induction r with
  | zero =>
    intro i h hi H e11 hr
    have s := H.1.1.1.1
    have sc := H.1.2.2.2.2.1
    have n45 : hN h 45 = 32 := H.1.1.1.2.2.1.2 (45, 32) (by decide)
    have e4 : hI h 40 4 = nI (rBd z) := sc.2.2.2.2.1
    have bd31 : rBd z ≤ 31 := sc.2.2.2.2.2.1
    obtain ⟨t1, t2, t3⟩ := sc.2.2.2.2.2.2 (rBd z) (Nat.le_refl _)
    have t1 : hA h 45 (rBd z) = nI (rKp z (rBd z)).length := t1
    have t2 : (rKp z (rBd z)).length ≤ 248 := t2
    have c32 : (rBd z < 32) = True := eq_true (by omega)
    have fin := hq h (by rw [← hi]; exact H)
    simp only [lv_args, z_v, z_lg, z_h, z_u, z_u1, z_c, z_ct, z_sk, sbne, lst1_d, ldel, lst2_d, ldel2, z_sw, z_rok, zi, eq_self, List.map_cons, List.map_nil, List.append_nil, List.nil_append, List.cons_append, Int32.reduceLT, Int32.reduceLE, Int32.reduceAdd, Int32.reduceSub, Int32.reduceMul, Int32.reduceToInt, Int32.reduceToNatClampNeg, Int.reduceLT, Int.reduceLE, Int.reduceNeg, true_and, and_true, or_self, or_false, false_or, false_and, and_false, true_or, or_true, if_true, if_false, ne_eq, Classical.not_not, not_true_eq_false, not_false_eq_true, true_implies, false_implies, implies_true, Nat.reduceEqDiff, Nat.reduceAdd, Nat.reduceLeDiff, Nat.reduceSub, reduceCtorEq, reduceIte, b98_72, skX s, h00, e149k s e4 (of_eq_true c32) n45]
    simp (disch := omega) only [nI_ti, nI_cl, le0N, ltNN, n45, c32, t1, nI_leN, true_and]
    try simp only [lv_args, z_v, z_lg, z_h, z_u, z_u1, z_c, z_ct, z_sk, sbne, lst1_d, ldel, lst2_d, ldel2, z_sw, z_rok, zi, eq_self, List.map_cons, List.map_nil, List.append_nil, List.nil_append, List.cons_append, Int32.reduceLT, Int32.reduceLE, Int32.reduceAdd, Int32.reduceSub, Int32.reduceMul, Int32.reduceToInt, Int32.reduceToNatClampNeg, Int.reduceLT, Int.reduceLE, Int.reduceNeg, true_and, and_true, or_self, or_false, false_or, false_and, and_false, true_or, or_true, if_true, if_false, ne_eq, Classical.not_not, not_true_eq_false, not_false_eq_true, true_implies, false_implies, implies_true, Nat.reduceEqDiff, Nat.reduceAdd, Nat.reduceLeDiff, Nat.reduceSub, reduceCtorEq, reduceIte, b98_72, skX s]
    try simp (disch := omega) only [nI_leN]
    refine ⟨fun _ => ?_, fun c => absurd (by omega) c⟩
    simp only [lv_args, z_v, z_lg, z_h, z_u, z_u1, z_c, z_ct, z_sk, sbne, lst1_d, ldel, lst2_d, ldel2, z_sw, z_rok, zi, eq_self, List.map_cons, List.map_nil, List.append_nil, List.nil_append, List.cons_append, Int32.reduceLT, Int32.reduceLE, Int32.reduceAdd, Int32.reduceSub, Int32.reduceMul, Int32.reduceToInt, Int32.reduceToNatClampNeg, Int.reduceLT, Int.reduceLE, Int.reduceNeg, true_and, and_true, or_self, or_false, false_or, false_and, and_false, true_or, or_true, if_true, if_false, ne_eq, Classical.not_not, not_true_eq_false, not_false_eq_true, true_implies, false_implies, implies_true, Nat.reduceEqDiff, Nat.reduceAdd, Nat.reduceLeDiff, Nat.reduceSub, reduceCtorEq, reduceIte, b98_114]
    exact fin
  | succ r ih =>
    intro i h hi H e11 hr
    have s := H.1.1.1.1
    have sc := H.1.2.2.2.2.1
    have n45 : hN h 45 = 32 := H.1.1.1.2.2.1.2 (45, 32) (by decide)
    have e4 : hI h 40 4 = nI (rBd z) := sc.2.2.2.2.1
    have bd31 : rBd z ≤ 31 := sc.2.2.2.2.2.1
    obtain ⟨t1, t2, t3⟩ := sc.2.2.2.2.2.2 (rBd z) (Nat.le_refl _)
    have t1 : hA h 45 (rBd z) = nI (rKp z (rBd z)).length := t1
    have t2 : (rKp z (rBd z)).length ≤ 248 := t2
    have c32 : (rBd z < 32) = True := eq_true (by omega)
    have hx := List.getElem?_eq_getElem (l := rKp z (rBd z)) (i := i) (by omega)
    have n44 : hN h 44 ≤ 1000000 := by
      have := (H.1.1.1.2.2.2.2 44 (by decide)).2
      have y44 : cpR 44 = 16000 := rfl
      omega
    have lm120 : (rLm z).length ≤ 120 := by
      have := H.1.2.2.2.2.2.1.2.2.1.2.1
      have e : (rLm (zEl m en i z)).length = (rLm z).length := List.length_set
      omega
    have src : ∀ {Q' : Option Value → Hp → Prop}, (∀ x, (gd c1 c2 z → x = nI (cSo z (rKp z (rBd z))[i])) → Q' (some (.int x)) h) → aEv (d - 1) 153 [.ref 40, .int (nI i)] h Q' := fun hq' =>
      sp_source (c1 := c1) (c2 := c2) (z := z) s n45 n44 sc hk hb1 hx (fun G => (H.1.2.2.2.2.2.2 G).2.2.1) (by omega) hq'
    simp only [lv_args, z_v, z_lg, z_h, z_u, z_u1, z_c, z_ct, z_sk, sbne, lst1_d, ldel, lst2_d, ldel2, z_sw, z_rok, zi, eq_self, List.map_cons, List.map_nil, List.append_nil, List.nil_append, List.cons_append, Int32.reduceLT, Int32.reduceLE, Int32.reduceAdd, Int32.reduceSub, Int32.reduceMul, Int32.reduceToInt, Int32.reduceToNatClampNeg, Int.reduceLT, Int.reduceLE, Int.reduceNeg, true_and, and_true, or_self, or_false, false_or, false_and, and_false, true_or, or_true, if_true, if_false, ne_eq, Classical.not_not, not_true_eq_false, not_false_eq_true, true_implies, false_implies, implies_true, Nat.reduceEqDiff, Nat.reduceAdd, Nat.reduceLeDiff, Nat.reduceSub, reduceCtorEq, reduceIte, b98_72, skX s, h00, e149k s e4 (of_eq_true c32) n45]
    simp (disch := omega) only [nI_ti, nI_cl, le0N, ltNN, n45, c32, t1, nI_leN, true_and]
    try simp only [lv_args, z_v, z_lg, z_h, z_u, z_u1, z_c, z_ct, z_sk, sbne, lst1_d, ldel, lst2_d, ldel2, z_sw, z_rok, zi, eq_self, List.map_cons, List.map_nil, List.append_nil, List.nil_append, List.cons_append, Int32.reduceLT, Int32.reduceLE, Int32.reduceAdd, Int32.reduceSub, Int32.reduceMul, Int32.reduceToInt, Int32.reduceToNatClampNeg, Int.reduceLT, Int.reduceLE, Int.reduceNeg, true_and, and_true, or_self, or_false, false_or, false_and, and_false, true_or, or_true, if_true, if_false, ne_eq, Classical.not_not, not_true_eq_false, not_false_eq_true, true_implies, false_implies, implies_true, Nat.reduceEqDiff, Nat.reduceAdd, Nat.reduceLeDiff, Nat.reduceSub, reduceCtorEq, reduceIte, b98_72, skX s]
    try simp (disch := omega) only [nI_leN]
    refine ⟨fun c => absurd c (by omega), fun _ => ?_⟩
    have hl1 : (rSr (zEl m en (i + 1) z)) = rSr (zEl m en i z) ++ [cSo z (rKp z (rBd z))[i]] := by
      show rSr z ++ ((rKp z (rBd z)).take (i + 1)).map (cSo z) = (rSr z ++ ((rKp z (rBd z)).take i).map (cSo z)) ++ [_]
      rw [List.take_succ_eq_append_getElem (by omega), List.map_append, List.append_assoc]
      rfl
    rcases hp with rfl | rfl
    · have e11 : hI h 19 11 = nI (s0 + i) := e11
      have hr : s0 + (rKp z (rBd z)).length ≤ hN h 28 := hr
      have c9 : (s0 + i < hN h 28) = True := eq_true (by omega)
      have kp : hK h 19 = 7 := s.1 19 (by decide)
      simp only [lv_args, z_v, z_lg, z_h, z_u, z_u1, z_c, z_ct, z_sk, sbne, lst1_d, ldel, lst2_d, ldel2, z_sw, z_rok, zi, eq_self, List.map_cons, List.map_nil, List.append_nil, List.nil_append, List.cons_append, Int32.reduceLT, Int32.reduceLE, Int32.reduceAdd, Int32.reduceSub, Int32.reduceMul, Int32.reduceToInt, Int32.reduceToNatClampNeg, Int.reduceLT, Int.reduceLE, Int.reduceNeg, true_and, and_true, or_self, or_false, false_or, false_and, and_false, true_or, or_true, if_true, if_false, ne_eq, Classical.not_not, not_true_eq_false, not_false_eq_true, true_implies, false_implies, implies_true, Nat.reduceEqDiff, Nat.reduceAdd, Nat.reduceLeDiff, Nat.reduceSub, reduceCtorEq, reduceIte, b98_82, skX s, srX s, e11, h00]
      refine src (fun x hx' => ?_)
      have nx := ih (i + 1) (pI (pA h 28 (upd (hA h 28) (s0 + i) x)) 19 11 (nI (s0 + i + 1))) (by omega) ?_ rfl hr
      · simp only [lv_args, z_v, z_lg, z_h, z_u, z_u1, z_c, z_ct, z_sk, sbne, lst1_d, ldel, lst2_d, ldel2, z_sw, z_rok, zi, eq_self, List.map_cons, List.map_nil, List.append_nil, List.nil_append, List.cons_append, Int32.reduceLT, Int32.reduceLE, Int32.reduceAdd, Int32.reduceSub, Int32.reduceMul, Int32.reduceToInt, Int32.reduceToNatClampNeg, Int.reduceLT, Int.reduceLE, Int.reduceNeg, true_and, and_true, or_self, or_false, false_or, false_and, and_false, true_or, or_true, if_true, if_false, ne_eq, Classical.not_not, not_true_eq_false, not_false_eq_true, true_implies, false_implies, implies_true, Nat.reduceEqDiff, Nat.reduceAdd, Nat.reduceLeDiff, Nat.reduceSub, reduceCtorEq, reduceIte, b98_82, skX s, srX s, e11, Nat.reduceLT]
        simp (disch := omega) only [nI_ti, nI_cl, le0N, ltNN, c9, true_and]
        try simp only [lv_args, z_v, z_lg, z_h, z_u, z_u1, z_c, z_ct, z_sk, sbne, lst1_d, ldel, lst2_d, ldel2, z_sw, z_rok, zi, eq_self, List.map_cons, List.map_nil, List.append_nil, List.nil_append, List.cons_append, Int32.reduceLT, Int32.reduceLE, Int32.reduceAdd, Int32.reduceSub, Int32.reduceMul, Int32.reduceToInt, Int32.reduceToNatClampNeg, Int.reduceLT, Int.reduceLE, Int.reduceNeg, true_and, and_true, or_self, or_false, false_or, false_and, and_false, true_or, or_true, if_true, if_false, ne_eq, Classical.not_not, not_true_eq_false, not_false_eq_true, true_implies, false_implies, implies_true, Nat.reduceEqDiff, Nat.reduceAdd, Nat.reduceLeDiff, Nat.reduceSub, reduceCtorEq, reduceIte, b98_82, skX s, e11, nI_s]
        exact nx
      · obtain ⟨⟨⟨cb, kx⟩, nn, da, ft, sc, pb, gx⟩, fm⟩ := H
        obtain ⟨b1, b2, b3, s', b4, b5, b6⟩ := pb
        have e : (rLm (zEl m en i z)).length = (rLm z).length := List.length_set
        refine ⟨⟨⟨cb_i (cb_a cb), kx_I (kx_A kx (by unfold XP; omega)) (by unfold XP; omega)⟩, nn, da, ft, sc, ⟨b1, b2, b3, s0 + i + 1, rfl, ?_, ?_⟩, fun G => ?_⟩, fm⟩
        · have e' : (rLm (zEl m en (i + 1) z)).length = (rLm z).length := List.length_set
          rw [e']; omega
        · show s0 + i + 1 ≤ hN h 28
          omega
        · obtain ⟨g1, g2, g3, g4, g5, g6, g7, g8, g9, g11, g10⟩ := gx G
          have el : s0 + i = (rSr (zEl m en i z)).length := nI_inj (by omega) (by omega) (e11.symm.trans g9)
          refine ⟨g1, g2, g3, g4, g5, g6, g7, g8, ?_, ?_, fun j y hj => ?_⟩
          · rw [hl1, List.length_append, List.length_singleton, ← el]; rfl
          · rw [hl1, List.length_append, List.length_singleton]; omega
          · rw [hl1] at hj
            show upd (hA h 28) (s0 + i) x j = nI y
            unfold upd
            rcases ap1_c hj with ⟨a1, a2⟩ | ⟨a1, rfl⟩
            · rw [if_neg (by omega)]
              exact g10 j y a2
            · rw [if_pos (by omega)]
              exact hx' G
    · have e11 : hI h 29 11 = nI (s0 + i) := e11
      have hr : s0 + (rKp z (rBd z)).length ≤ hN h 38 := hr
      have c9 : (s0 + i < hN h 38) = True := eq_true (by omega)
      have kp : hK h 29 = 7 := s.1 29 (by decide)
      simp only [lv_args, z_v, z_lg, z_h, z_u, z_u1, z_c, z_ct, z_sk, sbne, lst1_d, ldel, lst2_d, ldel2, z_sw, z_rok, zi, eq_self, List.map_cons, List.map_nil, List.append_nil, List.nil_append, List.cons_append, Int32.reduceLT, Int32.reduceLE, Int32.reduceAdd, Int32.reduceSub, Int32.reduceMul, Int32.reduceToInt, Int32.reduceToNatClampNeg, Int.reduceLT, Int.reduceLE, Int.reduceNeg, true_and, and_true, or_self, or_false, false_or, false_and, and_false, true_or, or_true, if_true, if_false, ne_eq, Classical.not_not, not_true_eq_false, not_false_eq_true, true_implies, false_implies, implies_true, Nat.reduceEqDiff, Nat.reduceAdd, Nat.reduceLeDiff, Nat.reduceSub, reduceCtorEq, reduceIte, b98_82, skX s, srX s, e11, h00]
      refine src (fun x hx' => ?_)
      have nx := ih (i + 1) (pI (pA h 38 (upd (hA h 38) (s0 + i) x)) 29 11 (nI (s0 + i + 1))) (by omega) ?_ rfl hr
      · simp only [lv_args, z_v, z_lg, z_h, z_u, z_u1, z_c, z_ct, z_sk, sbne, lst1_d, ldel, lst2_d, ldel2, z_sw, z_rok, zi, eq_self, List.map_cons, List.map_nil, List.append_nil, List.nil_append, List.cons_append, Int32.reduceLT, Int32.reduceLE, Int32.reduceAdd, Int32.reduceSub, Int32.reduceMul, Int32.reduceToInt, Int32.reduceToNatClampNeg, Int.reduceLT, Int.reduceLE, Int.reduceNeg, true_and, and_true, or_self, or_false, false_or, false_and, and_false, true_or, or_true, if_true, if_false, ne_eq, Classical.not_not, not_true_eq_false, not_false_eq_true, true_implies, false_implies, implies_true, Nat.reduceEqDiff, Nat.reduceAdd, Nat.reduceLeDiff, Nat.reduceSub, reduceCtorEq, reduceIte, b98_82, skX s, srX s, e11, Nat.reduceLT]
        simp (disch := omega) only [nI_ti, nI_cl, le0N, ltNN, c9, true_and]
        try simp only [lv_args, z_v, z_lg, z_h, z_u, z_u1, z_c, z_ct, z_sk, sbne, lst1_d, ldel, lst2_d, ldel2, z_sw, z_rok, zi, eq_self, List.map_cons, List.map_nil, List.append_nil, List.nil_append, List.cons_append, Int32.reduceLT, Int32.reduceLE, Int32.reduceAdd, Int32.reduceSub, Int32.reduceMul, Int32.reduceToInt, Int32.reduceToNatClampNeg, Int.reduceLT, Int.reduceLE, Int.reduceNeg, true_and, and_true, or_self, or_false, false_or, false_and, and_false, true_or, or_true, if_true, if_false, ne_eq, Classical.not_not, not_true_eq_false, not_false_eq_true, true_implies, false_implies, implies_true, Nat.reduceEqDiff, Nat.reduceAdd, Nat.reduceLeDiff, Nat.reduceSub, reduceCtorEq, reduceIte, b98_82, skX s, e11, nI_s]
        exact nx
      · obtain ⟨⟨⟨cb, kx⟩, nn, da, ft, sc, pb, gx⟩, fm⟩ := H
        obtain ⟨b1, b2, b3, s', b4, b5, b6⟩ := pb
        have e : (rLm (zEl m en i z)).length = (rLm z).length := List.length_set
        refine ⟨⟨⟨cb_i (cb_a cb), kx_I (kx_A kx (by unfold XP; omega)) (by unfold XP; omega)⟩, nn, da, ft, sc, ⟨b1, b2, b3, s0 + i + 1, rfl, ?_, ?_⟩, fun G => ?_⟩, fm⟩
        · have e' : (rLm (zEl m en (i + 1) z)).length = (rLm z).length := List.length_set
          rw [e']; omega
        · show s0 + i + 1 ≤ hN h 38
          omega
        · obtain ⟨g1, g2, g3, g4, g5, g6, g7, g8, g9, g11, g10⟩ := gx G
          have el : s0 + i = (rSr (zEl m en i z)).length := nI_inj (by omega) (by omega) (e11.symm.trans g9)
          refine ⟨g1, g2, g3, g4, g5, g6, g7, g8, ?_, ?_, fun j y hj => ?_⟩
          · rw [hl1, List.length_append, List.length_singleton, ← el]; rfl
          · rw [hl1, List.length_append, List.length_singleton]; omega
          · rw [hl1] at hj
            show upd (hA h 38) (s0 + i) x j = nI y
            unfold upd
            rcases ap1_c hj with ⟨a1, a2⟩ | ⟨a1, rfl⟩
            · rw [if_neg (by omega)]
              exact g10 j y a2
            · rw [if_pos (by omega)]
              exact hx' G
theorem sp_endl {m en : Nat} {en' dx' : Int32} (cc : CC N mt K p c1 c2 h0) (H : CH N K p c1 c2 h0 (m :: op) z h) (hk : KI z.2.1) (hb1 : 1 ≤ rBd z) (hm : m < (rLm z).length) (hmo : m ∉ op) (he : gd c1 c2 z → en' = nI en ∧ dx' = nI (rDx z)) (hd : 6 < d) (hq : ∀ h', CH N K p c1 c2 h0 op (cEl m en z) h' → Q none h') : aEv d 98 [.ref p, .int (nI m), .int en', .int dx', .ref 40] h Q := by
  have h00 : 0 < d := by omega
  have hp := cc.1
  have s := H.1.1.1.1
  have cb := H.1.1.1
  have sc := H.1.2.2.2.2.1
  have n45 : hN h 45 = 32 := H.1.1.1.2.2.1.2 (45, 32) (by decide)
  have e4 : hI h 40 4 = nI (rBd z) := sc.2.2.2.2.1
  have bd31 : rBd z ≤ 31 := sc.2.2.2.2.2.1
  obtain ⟨t1, t2, t3⟩ := sc.2.2.2.2.2.2 (rBd z) (Nat.le_refl _)
  have c32 : (rBd z < 32) = True := eq_true (by omega)
  obtain ⟨b1, b2, ⟨b3, b3', b3''⟩, s0, b4, b5, b6⟩ := H.1.2.2.2.2.2.1
  simp only [List.length_cons] at b5
  have m120 : (m < 120) = True := eq_true (by omega)
  have fin0 : ∀ h', CH N K p c1 c2 h0 op (zEl m en (rKp z (rBd z)).length z) h' → Q none h' := fun h' w => hq h' (by
    have e : cEl m en z = zEl m en (rKp z (rBd z)).length z := by
      unfold zEl
      rw [List.take_length]
      rfl
    rw [e]; exact w)
  have e00 : zEl m en 0 z = ((rCd z, rDt z, (rLm z).set m (en, ((rLm z).getD m (0, 0, 0, 0, [])).2.1, rDx z, (rSr z).length, rKp z (rBd z)), rSr z), z.2) := by
    unfold zEl
    rw [List.take_zero, List.map_nil, List.append_nil]
  rcases hp with rfl | rfl
  · have b3 : hI h 19 12 = nI (rLm z).length := b3
    have b4 : hI h 19 11 = nI s0 := b4
    have n4 : hN h 23 = 120 := cb.2.2.1.2 (23, 120) (by decide)
    have n6 : hN h 25 = 120 := cb.2.2.1.2 (25, 120) (by decide)
    have n7 : hN h 26 = 120 := cb.2.2.1.2 (26, 120) (by decide)
    have n8 : hN h 27 = 120 := cb.2.2.1.2 (27, 120) (by decide)
    have H1 : CH N K 19 c1 c2 h0 op (zEl m en 0 z) (pA (pA (pA (pA h 23 (upd (hA h 23) m en')) 25 (upd (hA h 25) m dx')) 26 (upd (hA h 26) m (nI s0))) 27 (upd (hA h 27) m (nI (rKp z (rBd z)).length))) := by
      rw [e00]
      obtain ⟨⟨⟨cb, kx⟩, nn, da, ft, sc, pb, gx⟩, fm⟩ := H
      have el : ((rLm z).set m (en, ((rLm z).getD m (0, 0, 0, 0, [])).2.1, rDx z, (rSr z).length, rKp z (rBd z))).length = (rLm z).length := List.length_set
      refine ⟨⟨⟨cb_a (cb_a (cb_a (cb_a cb))), kx_A (kx_A (kx_A (kx_A kx (by unfold XP; omega)) (by unfold XP; omega)) (by unfold XP; omega)) (by unfold XP; omega)⟩, nn, da, ft, sc, ⟨b1, b2, ⟨?_, ?_, fun i hi => ?_⟩, s0, b4, ?_, b6⟩, fun G => ?_⟩, fm⟩
      · show hI h 19 12 = nI ((rLm z).set m _).length
        rw [el]; exact b3
      · show ((rLm z).set m _).length ≤ 120
        rw [el]; exact b3'
      · show i < ((rLm z).set m _).length
        rw [el]; exact b3'' i (List.mem_cons_of_mem _ hi)
      · show s0 + 248 * op.length ≤ 248 * ((rLm z).set m _).length
        rw [el]; omega
      · have G0 : gd c1 c2 z := G
        obtain ⟨x1, x2⟩ := he G0
        obtain ⟨g1, g2, g3, g4, g5, g6, g7, g8, g9, g11, g10⟩ := gx G0
        have es : s0 = (rSr z).length := nI_inj (by omega) (by omega) (b4.symm.trans g9)
        refine ⟨g1, g2, g3, g4, g5, g6, g7, fun i e hi => ?_, g9, g11, g10⟩
        have hi : ((rLm z).set m (en, ((rLm z).getD m (0, 0, 0, 0, [])).2.1, rDx z, (rSr z).length, rKp z (rBd z)))[i]? = some e := hi
        show hA h 24 i = nI e.2.1 ∧ (i ∉ op → upd (hA h 23) m en' i = nI e.1 ∧ upd (hA h 25) m dx' i = nI e.2.2.1 ∧ upd (hA h 26) m (nI s0) i = nI e.2.2.2.1 ∧ upd (hA h 27) m (nI (rKp z (rBd z)).length) i = nI e.2.2.2.2.length)
        unfold upd
        by_cases c : i = m
        · subst c
          rw [List.getElem?_set_self hm] at hi
          injection hi with hi
          subst hi
          refine ⟨(g8 i _ (gdD (x := (0, 0, 0, 0, [])) hm)).1, fun _ => ?_⟩
          rw [if_pos rfl, if_pos rfl, if_pos rfl, if_pos rfl, x1, x2, es]
          exact ⟨rfl, rfl, rfl, rfl⟩
        · rw [List.getElem?_set_ne (Ne.symm c)] at hi
          rw [if_neg c, if_neg c, if_neg c, if_neg c]
          obtain ⟨y1, y2⟩ := g8 i e hi
          exact ⟨y1, fun ho => y2 (fun w => by
            rcases List.mem_cons.mp w with w | w
            · exact c w
            · exact ho w)⟩
    have e11b : hI (pA (pA (pA (pA h 23 (upd (hA h 23) m en')) 25 (upd (hA h 25) m dx')) 26 (upd (hA h 26) m (nI s0))) 27 (upd (hA h 27) m (nI (rKp z (rBd z)).length))) 19 11 = nI s0 := b4
    have c1' := H1.1.1.1
    have l9 := (c1'.2.2.2.2 28 (by decide)).2
    have y9 : cpR 28 = 62000 := rfl
    obtain ⟨H2, m2⟩ := ch_gro9 (n := s0 + (rKp z (rBd z)).length) cc H1 (by omega)
    unfold aEv
    simp only [lv_args, z_v, z_lg, z_h, z_u, z_u1, z_c, z_ct, z_sk, sbne, lst1_d, ldel, lst2_d, ldel2, z_sw, z_rok, zi, eq_self, List.map_cons, List.map_nil, List.append_nil, List.nil_append, List.cons_append, Int32.reduceLT, Int32.reduceLE, Int32.reduceAdd, Int32.reduceSub, Int32.reduceMul, Int32.reduceToInt, Int32.reduceToNatClampNeg, Int.reduceLT, Int.reduceLE, Int.reduceNeg, true_and, and_true, or_self, or_false, false_or, false_and, and_false, true_or, or_true, if_true, if_false, ne_eq, Classical.not_not, not_true_eq_false, not_false_eq_true, true_implies, false_implies, implies_true, Nat.reduceEqDiff, Nat.reduceAdd, Nat.reduceLeDiff, Nat.reduceSub, reduceCtorEq, reduceIte, b98_0]
    simp (disch := omega) only [nI_lt0, false_imp_iff, not_false_eq_true, true_imp_iff, true_and]
    simp only [lv_args, z_v, z_lg, z_h, z_u, z_u1, z_c, z_ct, z_sk, sbne, lst1_d, ldel, lst2_d, ldel2, z_sw, z_rok, zi, eq_self, List.map_cons, List.map_nil, List.append_nil, List.nil_append, List.cons_append, Int32.reduceLT, Int32.reduceLE, Int32.reduceAdd, Int32.reduceSub, Int32.reduceMul, Int32.reduceToInt, Int32.reduceToNatClampNeg, Int.reduceLT, Int.reduceLE, Int.reduceNeg, true_and, and_true, or_self, or_false, false_or, false_and, and_false, true_or, or_true, if_true, if_false, ne_eq, Classical.not_not, not_true_eq_false, not_false_eq_true, true_implies, false_implies, implies_true, Nat.reduceEqDiff, Nat.reduceAdd, Nat.reduceLeDiff, Nat.reduceSub, reduceCtorEq, reduceIte, b98_4, skX s, b3]
    simp (disch := omega) only [nI_ltN]
    refine ⟨fun _ => ?_, fun c => absurd hm c⟩
    simp only [lv_args, z_v, z_lg, z_h, z_u, z_u1, z_c, z_ct, z_sk, sbne, lst1_d, ldel, lst2_d, ldel2, z_sw, z_rok, zi, eq_self, List.map_cons, List.map_nil, List.append_nil, List.nil_append, List.cons_append, Int32.reduceLT, Int32.reduceLE, Int32.reduceAdd, Int32.reduceSub, Int32.reduceMul, Int32.reduceToInt, Int32.reduceToNatClampNeg, Int.reduceLT, Int.reduceLE, Int.reduceNeg, true_and, and_true, or_self, or_false, false_or, false_and, and_false, true_or, or_true, if_true, if_false, ne_eq, Classical.not_not, not_true_eq_false, not_false_eq_true, true_implies, false_implies, implies_true, Nat.reduceEqDiff, Nat.reduceAdd, Nat.reduceLeDiff, Nat.reduceSub, reduceCtorEq, reduceIte, b98_13, skX s, srX s, h00, e4, b4]
    simp (disch := omega) only [nI_ti, nI_cl, le0N, ltNN, n4, n6, n7, n8, n45, c32, m120, t1, true_and]
    try simp only [lv_args, z_v, z_lg, z_h, z_u, z_u1, z_c, z_ct, z_sk, sbne, lst1_d, ldel, lst2_d, ldel2, z_sw, z_rok, zi, eq_self, List.map_cons, List.map_nil, List.append_nil, List.nil_append, List.cons_append, Int32.reduceLT, Int32.reduceLE, Int32.reduceAdd, Int32.reduceSub, Int32.reduceMul, Int32.reduceToInt, Int32.reduceToNatClampNeg, Int.reduceLT, Int.reduceLE, Int.reduceNeg, true_and, and_true, or_self, or_false, false_or, false_and, and_false, true_or, or_true, if_true, if_false, ne_eq, Classical.not_not, not_true_eq_false, not_false_eq_true, true_implies, false_implies, implies_true, Nat.reduceEqDiff, Nat.reduceAdd, Nat.reduceLeDiff, Nat.reduceSub, reduceCtorEq, reduceIte, b98_13, skX s, srX s, h00, e4, b4]
    have sA : Sk (pA (pA (pA h 23 (upd (hA h 23) m en')) 25 (upd (hA h 25) m dx')) 26 (upd (hA h 26) m (nI s0))) := sk_u3 (sk_u3 (sk_u3 s))
    rw [e149k sA (bd := rBd z) e4 (of_eq_true c32) n45]
    simp only [lv_args, z_v, z_lg, z_h, z_u, z_u1, z_c, z_ct, z_sk, sbne, lst1_d, ldel, lst2_d, ldel2, z_sw, z_rok, zi, eq_self, List.map_cons, List.map_nil, List.append_nil, List.nil_append, List.cons_append, Int32.reduceLT, Int32.reduceLE, Int32.reduceAdd, Int32.reduceSub, Int32.reduceMul, Int32.reduceToInt, Int32.reduceToNatClampNeg, Int.reduceLT, Int.reduceLE, Int.reduceNeg, true_and, and_true, or_self, or_false, false_or, false_and, and_false, true_or, or_true, if_true, if_false, ne_eq, Classical.not_not, not_true_eq_false, not_false_eq_true, true_implies, false_implies, implies_true, Nat.reduceEqDiff, Nat.reduceAdd, Nat.reduceLeDiff, Nat.reduceSub, reduceCtorEq, reduceIte, b98_13, skX s, srX s, h00, e4, n45]
    simp (disch := omega) only [nI_ti, nI_cl, le0N, ltNN, n8, c32, m120, t1, true_and]
    try simp only [lv_args, z_v, z_lg, z_h, z_u, z_u1, z_c, z_ct, z_sk, sbne, lst1_d, ldel, lst2_d, ldel2, z_sw, z_rok, zi, eq_self, List.map_cons, List.map_nil, List.append_nil, List.nil_append, List.cons_append, Int32.reduceLT, Int32.reduceLE, Int32.reduceAdd, Int32.reduceSub, Int32.reduceMul, Int32.reduceToInt, Int32.reduceToNatClampNeg, Int.reduceLT, Int.reduceLE, Int.reduceNeg, true_and, and_true, or_self, or_false, false_or, false_and, and_false, true_or, or_true, if_true, if_false, ne_eq, Classical.not_not, not_true_eq_false, not_false_eq_true, true_implies, false_implies, implies_true, Nat.reduceEqDiff, Nat.reduceAdd, Nat.reduceLeDiff, Nat.reduceSub, reduceCtorEq, reduceIte, b98_13, skX s, srX s, h00, e4, n45, b4]
    clear sA
    generalize pA (pA (pA (pA h 23 (upd (hA h 23) m en')) 25 (upd (hA h 25) m dx')) 26 (upd (hA h 26) m (nI s0))) 27 (upd (hA h 27) m (nI (rKp z (rBd z)).length)) = hb at *
    have sB := c1'.1
    have kpB : hK hb 19 = 7 := sB.1 19 (by decide)
    have scB := H1.1.2.2.2.2.1
    have e4B : hI hb 40 4 = nI (rBd z) := scB.2.2.2.2.1
    have t1B : hA hb 45 (rBd z) = nI (rKp z (rBd z)).length := (scB.2.2.2.2.2.2 (rBd z) (Nat.le_refl _)).1
    have n45B : hN hb 45 = 32 := c1'.2.2.1.2 (45, 32) (by decide)
    have e11B : hI hb 19 11 = nI s0 := e11b
    rw [e149k sB e4B (of_eq_true c32) n45B]
    simp only [lv_args, z_v, z_lg, z_h, z_u, z_u1, z_c, z_ct, z_sk, sbne, lst1_d, ldel, lst2_d, ldel2, z_sw, z_rok, zi, eq_self, List.map_cons, List.map_nil, List.append_nil, List.nil_append, List.cons_append, Int32.reduceLT, Int32.reduceLE, Int32.reduceAdd, Int32.reduceSub, Int32.reduceMul, Int32.reduceToInt, Int32.reduceToNatClampNeg, Int.reduceLT, Int.reduceLE, Int.reduceNeg, true_and, and_true, or_self, or_false, false_or, false_and, and_false, true_or, or_true, if_true, if_false, ne_eq, Classical.not_not, not_true_eq_false, not_false_eq_true, true_implies, false_implies, implies_true, Nat.reduceEqDiff, Nat.reduceAdd, Nat.reduceLeDiff, Nat.reduceSub, reduceCtorEq, reduceIte, b98_13, skX sB, srX sB, h00, e4B, n45B]
    simp (disch := omega) only [nI_ti, nI_cl, le0N, ltNN, c32, t1B, true_and]
    try simp only [lv_args, z_v, z_lg, z_h, z_u, z_u1, z_c, z_ct, z_sk, sbne, lst1_d, ldel, lst2_d, ldel2, z_sw, z_rok, zi, eq_self, List.map_cons, List.map_nil, List.append_nil, List.nil_append, List.cons_append, Int32.reduceLT, Int32.reduceLE, Int32.reduceAdd, Int32.reduceSub, Int32.reduceMul, Int32.reduceToInt, Int32.reduceToNatClampNeg, Int.reduceLT, Int.reduceLE, Int.reduceNeg, true_and, and_true, or_self, or_false, false_or, false_and, and_false, true_or, or_true, if_true, if_false, ne_eq, Classical.not_not, not_true_eq_false, not_false_eq_true, true_implies, false_implies, implies_true, Nat.reduceEqDiff, Nat.reduceAdd, Nat.reduceLeDiff, Nat.reduceSub, reduceCtorEq, reduceIte, b98_13, skX sB, srX sB, h00, nI_add]
    refine grw_I (st := []) mm_98 dX6_endLambda_63 ml_6_46 dX6_endLambda_66 fl_6_37 rfl (by unfold finOK; decide +kernel) (by omega) sB c1'.2.1 c1'.2.2 kpB (by decide) (sB.2.1 19 10 rfl) (sB.1 28 (by decide)) (by decide) (by decide) rt_so.1 (fun z hz q e => ?_) (by omega) (by omega) ?_
    · simp only [List.mem_cons, List.not_mem_nil, or_false] at hz
      rcases hz with rfl | rfl | rfl | rfl | rfl
      · injection e with e
        subst e
        exact ⟨by decide, by decide⟩
      · cases e
      · cases e
      · cases e
      · injection e with e
        subst e
        exact ⟨by decide, by decide⟩
    have e11C : hI (rmI hb 28 (s0 + (rKp z (rBd z)).length)) 19 11 = nI s0 := by
      rw [(gro_I sB (a := 28) (by decide) (s0 + (rKp z (rBd z)).length)).1.2.1]; exact e11B
    have go := el_loop (m := m) (en := en) (s0 := s0) (en' := en') (dx' := dx') (d := d) (Q := Q) cc hk hb1 (by omega) hm (by omega) fin0 (rKp z (rBd z)).length 0 _ (Nat.zero_add _) H2 e11C m2
    generalize rmI hb 28 (s0 + (rKp z (rBd z)).length) = hc at *
    simp only [lv_args, z_v, z_lg, z_h, z_u, z_u1, z_c, z_ct, z_sk, sbne, lst1_d, ldel, lst2_d, ldel2, z_sw, z_rok, zi, eq_self, List.map_cons, List.map_nil, List.append_nil, List.nil_append, List.cons_append, Int32.reduceLT, Int32.reduceLE, Int32.reduceAdd, Int32.reduceSub, Int32.reduceMul, Int32.reduceToInt, Int32.reduceToNatClampNeg, Int.reduceLT, Int.reduceLE, Int.reduceNeg, true_and, and_true, or_self, or_false, false_or, false_and, and_false, true_or, or_true, if_true, if_false, ne_eq, Classical.not_not, not_true_eq_false, not_false_eq_true, true_implies, false_implies, implies_true, Nat.reduceEqDiff, Nat.reduceAdd, Nat.reduceLeDiff, Nat.reduceSub, reduceCtorEq, reduceIte, b98_69]
    exact go
  · have b3 : hI h 29 12 = nI (rLm z).length := b3
    have b4 : hI h 29 11 = nI s0 := b4
    have n4 : hN h 33 = 120 := cb.2.2.1.2 (33, 120) (by decide)
    have n6 : hN h 35 = 120 := cb.2.2.1.2 (35, 120) (by decide)
    have n7 : hN h 36 = 120 := cb.2.2.1.2 (36, 120) (by decide)
    have n8 : hN h 37 = 120 := cb.2.2.1.2 (37, 120) (by decide)
    have H1 : CH N K 29 c1 c2 h0 op (zEl m en 0 z) (pA (pA (pA (pA h 33 (upd (hA h 33) m en')) 35 (upd (hA h 35) m dx')) 36 (upd (hA h 36) m (nI s0))) 37 (upd (hA h 37) m (nI (rKp z (rBd z)).length))) := by
      rw [e00]
      obtain ⟨⟨⟨cb, kx⟩, nn, da, ft, sc, pb, gx⟩, fm⟩ := H
      have el : ((rLm z).set m (en, ((rLm z).getD m (0, 0, 0, 0, [])).2.1, rDx z, (rSr z).length, rKp z (rBd z))).length = (rLm z).length := List.length_set
      refine ⟨⟨⟨cb_a (cb_a (cb_a (cb_a cb))), kx_A (kx_A (kx_A (kx_A kx (by unfold XP; omega)) (by unfold XP; omega)) (by unfold XP; omega)) (by unfold XP; omega)⟩, nn, da, ft, sc, ⟨b1, b2, ⟨?_, ?_, fun i hi => ?_⟩, s0, b4, ?_, b6⟩, fun G => ?_⟩, fm⟩
      · show hI h 29 12 = nI ((rLm z).set m _).length
        rw [el]; exact b3
      · show ((rLm z).set m _).length ≤ 120
        rw [el]; exact b3'
      · show i < ((rLm z).set m _).length
        rw [el]; exact b3'' i (List.mem_cons_of_mem _ hi)
      · show s0 + 248 * op.length ≤ 248 * ((rLm z).set m _).length
        rw [el]; omega
      · have G0 : gd c1 c2 z := G
        obtain ⟨x1, x2⟩ := he G0
        obtain ⟨g1, g2, g3, g4, g5, g6, g7, g8, g9, g11, g10⟩ := gx G0
        have es : s0 = (rSr z).length := nI_inj (by omega) (by omega) (b4.symm.trans g9)
        refine ⟨g1, g2, g3, g4, g5, g6, g7, fun i e hi => ?_, g9, g11, g10⟩
        have hi : ((rLm z).set m (en, ((rLm z).getD m (0, 0, 0, 0, [])).2.1, rDx z, (rSr z).length, rKp z (rBd z)))[i]? = some e := hi
        show hA h 34 i = nI e.2.1 ∧ (i ∉ op → upd (hA h 33) m en' i = nI e.1 ∧ upd (hA h 35) m dx' i = nI e.2.2.1 ∧ upd (hA h 36) m (nI s0) i = nI e.2.2.2.1 ∧ upd (hA h 37) m (nI (rKp z (rBd z)).length) i = nI e.2.2.2.2.length)
        unfold upd
        by_cases c : i = m
        · subst c
          rw [List.getElem?_set_self hm] at hi
          injection hi with hi
          subst hi
          refine ⟨(g8 i _ (gdD (x := (0, 0, 0, 0, [])) hm)).1, fun _ => ?_⟩
          rw [if_pos rfl, if_pos rfl, if_pos rfl, if_pos rfl, x1, x2, es]
          exact ⟨rfl, rfl, rfl, rfl⟩
        · rw [List.getElem?_set_ne (Ne.symm c)] at hi
          rw [if_neg c, if_neg c, if_neg c, if_neg c]
          obtain ⟨y1, y2⟩ := g8 i e hi
          exact ⟨y1, fun ho => y2 (fun w => by
            rcases List.mem_cons.mp w with w | w
            · exact c w
            · exact ho w)⟩
    have e11b : hI (pA (pA (pA (pA h 33 (upd (hA h 33) m en')) 35 (upd (hA h 35) m dx')) 36 (upd (hA h 36) m (nI s0))) 37 (upd (hA h 37) m (nI (rKp z (rBd z)).length))) 29 11 = nI s0 := b4
    have c1' := H1.1.1.1
    have l9 := (c1'.2.2.2.2 38 (by decide)).2
    have y9 : cpR 38 = 62000 := rfl
    obtain ⟨H2, m2⟩ := ch_gro9 (n := s0 + (rKp z (rBd z)).length) cc H1 (by omega)
    unfold aEv
    simp only [lv_args, z_v, z_lg, z_h, z_u, z_u1, z_c, z_ct, z_sk, sbne, lst1_d, ldel, lst2_d, ldel2, z_sw, z_rok, zi, eq_self, List.map_cons, List.map_nil, List.append_nil, List.nil_append, List.cons_append, Int32.reduceLT, Int32.reduceLE, Int32.reduceAdd, Int32.reduceSub, Int32.reduceMul, Int32.reduceToInt, Int32.reduceToNatClampNeg, Int.reduceLT, Int.reduceLE, Int.reduceNeg, true_and, and_true, or_self, or_false, false_or, false_and, and_false, true_or, or_true, if_true, if_false, ne_eq, Classical.not_not, not_true_eq_false, not_false_eq_true, true_implies, false_implies, implies_true, Nat.reduceEqDiff, Nat.reduceAdd, Nat.reduceLeDiff, Nat.reduceSub, reduceCtorEq, reduceIte, b98_0]
    simp (disch := omega) only [nI_lt0, false_imp_iff, not_false_eq_true, true_imp_iff, true_and]
    simp only [lv_args, z_v, z_lg, z_h, z_u, z_u1, z_c, z_ct, z_sk, sbne, lst1_d, ldel, lst2_d, ldel2, z_sw, z_rok, zi, eq_self, List.map_cons, List.map_nil, List.append_nil, List.nil_append, List.cons_append, Int32.reduceLT, Int32.reduceLE, Int32.reduceAdd, Int32.reduceSub, Int32.reduceMul, Int32.reduceToInt, Int32.reduceToNatClampNeg, Int.reduceLT, Int.reduceLE, Int.reduceNeg, true_and, and_true, or_self, or_false, false_or, false_and, and_false, true_or, or_true, if_true, if_false, ne_eq, Classical.not_not, not_true_eq_false, not_false_eq_true, true_implies, false_implies, implies_true, Nat.reduceEqDiff, Nat.reduceAdd, Nat.reduceLeDiff, Nat.reduceSub, reduceCtorEq, reduceIte, b98_4, skX s, b3]
    simp (disch := omega) only [nI_ltN]
    refine ⟨fun _ => ?_, fun c => absurd hm c⟩
    simp only [lv_args, z_v, z_lg, z_h, z_u, z_u1, z_c, z_ct, z_sk, sbne, lst1_d, ldel, lst2_d, ldel2, z_sw, z_rok, zi, eq_self, List.map_cons, List.map_nil, List.append_nil, List.nil_append, List.cons_append, Int32.reduceLT, Int32.reduceLE, Int32.reduceAdd, Int32.reduceSub, Int32.reduceMul, Int32.reduceToInt, Int32.reduceToNatClampNeg, Int.reduceLT, Int.reduceLE, Int.reduceNeg, true_and, and_true, or_self, or_false, false_or, false_and, and_false, true_or, or_true, if_true, if_false, ne_eq, Classical.not_not, not_true_eq_false, not_false_eq_true, true_implies, false_implies, implies_true, Nat.reduceEqDiff, Nat.reduceAdd, Nat.reduceLeDiff, Nat.reduceSub, reduceCtorEq, reduceIte, b98_13, skX s, srX s, h00, e4, b4]
    simp (disch := omega) only [nI_ti, nI_cl, le0N, ltNN, n4, n6, n7, n8, n45, c32, m120, t1, true_and]
    try simp only [lv_args, z_v, z_lg, z_h, z_u, z_u1, z_c, z_ct, z_sk, sbne, lst1_d, ldel, lst2_d, ldel2, z_sw, z_rok, zi, eq_self, List.map_cons, List.map_nil, List.append_nil, List.nil_append, List.cons_append, Int32.reduceLT, Int32.reduceLE, Int32.reduceAdd, Int32.reduceSub, Int32.reduceMul, Int32.reduceToInt, Int32.reduceToNatClampNeg, Int.reduceLT, Int.reduceLE, Int.reduceNeg, true_and, and_true, or_self, or_false, false_or, false_and, and_false, true_or, or_true, if_true, if_false, ne_eq, Classical.not_not, not_true_eq_false, not_false_eq_true, true_implies, false_implies, implies_true, Nat.reduceEqDiff, Nat.reduceAdd, Nat.reduceLeDiff, Nat.reduceSub, reduceCtorEq, reduceIte, b98_13, skX s, srX s, h00, e4, b4]
    have sA : Sk (pA (pA (pA h 33 (upd (hA h 33) m en')) 35 (upd (hA h 35) m dx')) 36 (upd (hA h 36) m (nI s0))) := sk_u3 (sk_u3 (sk_u3 s))
    rw [e149k sA (bd := rBd z) e4 (of_eq_true c32) n45]
    simp only [lv_args, z_v, z_lg, z_h, z_u, z_u1, z_c, z_ct, z_sk, sbne, lst1_d, ldel, lst2_d, ldel2, z_sw, z_rok, zi, eq_self, List.map_cons, List.map_nil, List.append_nil, List.nil_append, List.cons_append, Int32.reduceLT, Int32.reduceLE, Int32.reduceAdd, Int32.reduceSub, Int32.reduceMul, Int32.reduceToInt, Int32.reduceToNatClampNeg, Int.reduceLT, Int.reduceLE, Int.reduceNeg, true_and, and_true, or_self, or_false, false_or, false_and, and_false, true_or, or_true, if_true, if_false, ne_eq, Classical.not_not, not_true_eq_false, not_false_eq_true, true_implies, false_implies, implies_true, Nat.reduceEqDiff, Nat.reduceAdd, Nat.reduceLeDiff, Nat.reduceSub, reduceCtorEq, reduceIte, b98_13, skX s, srX s, h00, e4, n45]
    simp (disch := omega) only [nI_ti, nI_cl, le0N, ltNN, n8, c32, m120, t1, true_and]
    try simp only [lv_args, z_v, z_lg, z_h, z_u, z_u1, z_c, z_ct, z_sk, sbne, lst1_d, ldel, lst2_d, ldel2, z_sw, z_rok, zi, eq_self, List.map_cons, List.map_nil, List.append_nil, List.nil_append, List.cons_append, Int32.reduceLT, Int32.reduceLE, Int32.reduceAdd, Int32.reduceSub, Int32.reduceMul, Int32.reduceToInt, Int32.reduceToNatClampNeg, Int.reduceLT, Int.reduceLE, Int.reduceNeg, true_and, and_true, or_self, or_false, false_or, false_and, and_false, true_or, or_true, if_true, if_false, ne_eq, Classical.not_not, not_true_eq_false, not_false_eq_true, true_implies, false_implies, implies_true, Nat.reduceEqDiff, Nat.reduceAdd, Nat.reduceLeDiff, Nat.reduceSub, reduceCtorEq, reduceIte, b98_13, skX s, srX s, h00, e4, n45, b4]
    clear sA
    generalize pA (pA (pA (pA h 33 (upd (hA h 33) m en')) 35 (upd (hA h 35) m dx')) 36 (upd (hA h 36) m (nI s0))) 37 (upd (hA h 37) m (nI (rKp z (rBd z)).length)) = hb at *
    have sB := c1'.1
    have kpB : hK hb 29 = 7 := sB.1 29 (by decide)
    have scB := H1.1.2.2.2.2.1
    have e4B : hI hb 40 4 = nI (rBd z) := scB.2.2.2.2.1
    have t1B : hA hb 45 (rBd z) = nI (rKp z (rBd z)).length := (scB.2.2.2.2.2.2 (rBd z) (Nat.le_refl _)).1
    have n45B : hN hb 45 = 32 := c1'.2.2.1.2 (45, 32) (by decide)
    have e11B : hI hb 29 11 = nI s0 := e11b
    rw [e149k sB e4B (of_eq_true c32) n45B]
    simp only [lv_args, z_v, z_lg, z_h, z_u, z_u1, z_c, z_ct, z_sk, sbne, lst1_d, ldel, lst2_d, ldel2, z_sw, z_rok, zi, eq_self, List.map_cons, List.map_nil, List.append_nil, List.nil_append, List.cons_append, Int32.reduceLT, Int32.reduceLE, Int32.reduceAdd, Int32.reduceSub, Int32.reduceMul, Int32.reduceToInt, Int32.reduceToNatClampNeg, Int.reduceLT, Int.reduceLE, Int.reduceNeg, true_and, and_true, or_self, or_false, false_or, false_and, and_false, true_or, or_true, if_true, if_false, ne_eq, Classical.not_not, not_true_eq_false, not_false_eq_true, true_implies, false_implies, implies_true, Nat.reduceEqDiff, Nat.reduceAdd, Nat.reduceLeDiff, Nat.reduceSub, reduceCtorEq, reduceIte, b98_13, skX sB, srX sB, h00, e4B, n45B]
    simp (disch := omega) only [nI_ti, nI_cl, le0N, ltNN, c32, t1B, true_and]
    try simp only [lv_args, z_v, z_lg, z_h, z_u, z_u1, z_c, z_ct, z_sk, sbne, lst1_d, ldel, lst2_d, ldel2, z_sw, z_rok, zi, eq_self, List.map_cons, List.map_nil, List.append_nil, List.nil_append, List.cons_append, Int32.reduceLT, Int32.reduceLE, Int32.reduceAdd, Int32.reduceSub, Int32.reduceMul, Int32.reduceToInt, Int32.reduceToNatClampNeg, Int.reduceLT, Int.reduceLE, Int.reduceNeg, true_and, and_true, or_self, or_false, false_or, false_and, and_false, true_or, or_true, if_true, if_false, ne_eq, Classical.not_not, not_true_eq_false, not_false_eq_true, true_implies, false_implies, implies_true, Nat.reduceEqDiff, Nat.reduceAdd, Nat.reduceLeDiff, Nat.reduceSub, reduceCtorEq, reduceIte, b98_13, skX sB, srX sB, h00, nI_add]
    refine grw_I (st := []) mm_98 dX6_endLambda_63 ml_6_46 dX6_endLambda_66 fl_6_37 rfl (by unfold finOK; decide +kernel) (by omega) sB c1'.2.1 c1'.2.2 kpB (by decide) (sB.2.1 29 10 rfl) (sB.1 38 (by decide)) (by decide) (by decide) rt_so.2 (fun z hz q e => ?_) (by omega) (by omega) ?_
    · simp only [List.mem_cons, List.not_mem_nil, or_false] at hz
      rcases hz with rfl | rfl | rfl | rfl | rfl
      · injection e with e
        subst e
        exact ⟨by decide, by decide⟩
      · cases e
      · cases e
      · cases e
      · injection e with e
        subst e
        exact ⟨by decide, by decide⟩
    have e11C : hI (rmI hb 38 (s0 + (rKp z (rBd z)).length)) 29 11 = nI s0 := by
      rw [(gro_I sB (a := 38) (by decide) (s0 + (rKp z (rBd z)).length)).1.2.1]; exact e11B
    have go := el_loop (m := m) (en := en) (s0 := s0) (en' := en') (dx' := dx') (d := d) (Q := Q) cc hk hb1 (by omega) hm (by omega) fin0 (rKp z (rBd z)).length 0 _ (Nat.zero_add _) H2 e11C m2
    generalize rmI hb 38 (s0 + (rKp z (rBd z)).length) = hc at *
    simp only [lv_args, z_v, z_lg, z_h, z_u, z_u1, z_c, z_ct, z_sk, sbne, lst1_d, ldel, lst2_d, ldel2, z_sw, z_rok, zi, eq_self, List.map_cons, List.map_nil, List.append_nil, List.nil_append, List.cons_append, Int32.reduceLT, Int32.reduceLE, Int32.reduceAdd, Int32.reduceSub, Int32.reduceMul, Int32.reduceToInt, Int32.reduceToNatClampNeg, Int.reduceLT, Int.reduceLE, Int.reduceNeg, true_and, and_true, or_self, or_false, false_or, false_and, and_false, true_or, or_true, if_true, if_false, ne_eq, Classical.not_not, not_true_eq_false, not_false_eq_true, true_implies, false_implies, implies_true, Nat.reduceEqDiff, Nat.reduceAdd, Nat.reduceLeDiff, Nat.reduceSub, reduceCtorEq, reduceIte, b98_69]
    exact go
end CED
