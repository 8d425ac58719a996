/-! BUILD. The table of names begins -/
def CB (h : Hp) : Prop := Sk h ∧ Vy h ∧ Rm h
def twA (j : Nat) (K : List KY) : List KY := ((sCh j).foldl twS ((0, 0, 0), K)).2
def K30 : List KY := twA 3 (twA 2 (twA 1 (twA 0 [])))
theorem k30_len : (twA 0 []).length = 10 ∧ (twA 1 (twA 0 [])).length = 18 ∧ (twA 2 (twA 1 (twA 0 []))).length = 29 ∧ K30.length = 30 := by decide +kernel
theorem sch_cnt : (sCh 0).count 32 = 10 ∧ (sCh 1).count 32 = 8 ∧ (sCh 2).count 32 = 11 ∧ (sCh 3).count 32 = 1 ∧ (sCh 0).length < 1000 ∧ (sCh 1).length < 1000 ∧ (sCh 2).length < 1000 ∧ (sCh 3).length < 1000 := by decide +kernel
theorem div_2 (n : Nat) (h : n < 3001) : nI n / 2 = nI (n / 2) := by
  apply Int32.toInt_inj.mp
  rw [Int32.toInt_div_of_ne_right _ _ (by decide), nI_toInt (by omega), nI_toInt (by omega)]
  have : (2 : Int32).toInt = ((2 : Nat) : Int) := rfl
  rw [this]
  exact (Int.ofNat_tdiv n 2).symm
theorem rt_n : (∀ e, e ∈ RTl → e.2 = 5 → e.1 = (4, 0)) ∧ (∀ e, e ∈ RTl → e.2 = 6 → e.1 = (4, 1)) ∧ (∀ e, e ∈ RTl → e.2 = 7 → e.1 = (4, 2)) ∧ (∀ e, e ∈ RTl → e.2 = 8 → e.1 = (4, 3)) := by decide +kernel
section NMB
variable {h h' : Hp} {Q : Option Value → Hp → Prop} {d n r : Nat}
theorem cb_J (c : CB h) (hr : r ∈ GLs) (hn : n ≤ cpR r) (hn2 : 2 * n ≤ cpR r + 1) (hx : r ≠ 20 ∧ r ≠ 21 ∧ r ≠ 30 ∧ r ≠ 31 := by decide) : CB (rmJ h r n) ∧ n ≤ hN (rmJ h r n) r ∧ Gro r n h (rmJ h r n) ∧ ∀ i, i < hN h r → hB (rmJ h r n) r i = hB h r i := by
  obtain ⟨s, v, rm⟩ := c
  have hr2 := gl_lt r hr
  obtain ⟨g1, g2⟩ := gro_J s hr2 n
  have h2 := (rm.2.2 r hr).2
  have hbd : hN (rmJ h r n) r ≤ cpR r := by
    rw [(rmJ_r h r n (by have := s.2.2; omega)).2.2.2.2.2.2.2.2.1]
    split <;> omega
  exact ⟨⟨gro_sk g1 s, gro_vy g1 v, gro_rm g1 rm hr hbd hx⟩, g1.2.2.2.2.2.1, g1, g2⟩
theorem cb_I (c : CB h) (hr : r ∈ GLs) (hn : n ≤ cpR r) (hn2 : 2 * n ≤ cpR r + 1) (hx : r ≠ 20 ∧ r ≠ 21 ∧ r ≠ 30 ∧ r ≠ 31 := by decide) : CB (rmI h r n) ∧ n ≤ hN (rmI h r n) r ∧ Gro r n h (rmI h r n) ∧ ∀ i, i < hN h r → hA (rmI h r n) r i = hA h r i := by
  obtain ⟨s, v, rm⟩ := c
  have hr2 := gl_lt r hr
  obtain ⟨g1, g2⟩ := gro_I s hr2 n
  have h2 := (rm.2.2 r hr).2
  have hbd : hN (rmI h r n) r ≤ cpR r := by
    rw [(rmI_r h r n (by have := s.2.2; omega)).2.2.2.2.2.2.2.2.1]
    split <;> omega
  exact ⟨⟨gro_sk g1 s, gro_vy g1 v, gro_rm g1 rm hr hbd hx⟩, g1.2.2.2.2.2.1, g1, g2⟩
theorem rmJ_v {a : Nat} (ha : a < hn h) (hr : a ≠ r) : hv (rmJ h r n) a = hv h a := by
  unfold rmJ
  split
  · rfl
  · show hvS (hv h) r (hn h) a = _
    unfold hvS
    rw [if_neg hr, if_neg (by omega)]
theorem rmI_v {a : Nat} (ha : a < hn h) (hr : a ≠ r) : hv (rmI h r n) a = hv h a := by
  unfold rmI
  split
  · rfl
  · show hvS (hv h) r (hn h) a = _
    unfold hvS
    rw [if_neg hr, if_neg (by omega)]
theorem frn_cb (f : FrN h h') (c : CB h) : CB h' := by
  obtain ⟨s, v, rm⟩ := c
  exact ⟨frn_sk f s, by unfold Vy; rw [f.2.1]; exact v, rm_same f.2.2.1 f.2.2.2.1 f.2.2.2.2.1 rm⟩
theorem sp_takeWords {j : Nat} {K : List KY} (s : Sk h) (nt : NT K [] h) (hj : j < 5) (hd : 13 < d) (hlen : (sCh j).length < 1000) (hcnt : K.length + (sCh j).count 32 ≤ 31) (hn5 : 32 ≤ hN h 5 ∧ 32 ≤ hN h 6 ∧ 32 ≤ hN h 7 ∧ 32 ≤ hN h 8 ∧ hN h 5 ≤ 10000) (hq : ∀ h', NT (twA j K) [] h' → FrN h h' → Q none h') : aEv d 86 [.ref 4, .ref (SB + j)] h Q := by
  have h0 : 0 < d := by omega
  unfold aEv
  simp only [lv_args, z_v, z_lg, z_h, z_u, z_u1, z_c, z_ct, z_sk, sbne, lst1_d, ldel, lst2_d, ldel2, z_sw, z_rok, zi, eq_self, List.map_cons, List.map_nil, List.append_nil, List.nil_append, List.cons_append, Int32.reduceLT, Int32.reduceLE, Int32.reduceAdd, Int32.reduceSub, Int32.reduceMul, Int32.reduceToInt, Int32.reduceToNatClampNeg, Int.reduceLT, Int.reduceLE, Int.reduceNeg, true_and, and_true, or_self, or_false, false_or, false_and, and_false, true_or, or_true, if_true, if_false, ne_eq, Classical.not_not, not_true_eq_false, not_false_eq_true, true_implies, false_implies, implies_true, Nat.reduceEqDiff, Nat.reduceAdd, Nat.reduceLeDiff, Nat.reduceSub, reduceCtorEq, reduceIte, b86_0, skX s, h0]
  refine sp_start s nt (fun h1 nt1 g1 F1 => ?_)
  have s1 := frn_sk F1 s
  have hvv : hv h1 = hv h := F1.2.2.2.2.2.1
  have n1 := F1.2.2.1
  simp only [lv_args, z_v, z_lg, z_h, z_u, z_u1, z_c, z_ct, z_sk, sbne, lst1_d, ldel, lst2_d, ldel2, z_sw, z_rok, zi, eq_self, List.map_cons, List.map_nil, List.append_nil, List.nil_append, List.cons_append, Int32.reduceLT, Int32.reduceLE, Int32.reduceAdd, Int32.reduceSub, Int32.reduceMul, Int32.reduceToInt, Int32.reduceToNatClampNeg, Int.reduceLT, Int.reduceLE, Int.reduceNeg, true_and, and_true, or_self, or_false, false_or, false_and, and_false, true_or, or_true, if_true, if_false, ne_eq, Classical.not_not, not_true_eq_false, not_false_eq_true, true_implies, false_implies, implies_true, Nat.reduceEqDiff, Nat.reduceAdd, Nat.reduceLeDiff, Nat.reduceSub, reduceCtorEq, reduceIte, b86_0, skX s, skX s1, hvv, Nat.reduceLT]
  exact tw_loop hj (by omega) hlen (by rw [n1]; exact hn5) s1 (sCh j) 0 ((0, 0, 0), K) _ h1 rfl (Nat.zero_le _) (Or.inl rfl) nt1 g1 (Nat.zero_le _) frn_rf hcnt (fun h' a b => hq h' a (frn_tr F1 b))
theorem sp_nbegin (c : CB h) (hn : n ≤ 3000) (hd : 20 < d) (hq : ∀ h', CB h' → NT K30 [] h' → (n / 2 + 32 ≤ hN h' 5 ∧ n / 2 + 32 ≤ hN h' 6 ∧ n / 2 + 32 ≤ hN h' 7 ∧ n / 2 + 32 ≤ hN h' 8) → hv h' 1 = hv h 1 → Q none h') : aEv d 78 [.ref 4, .int (nI n)] h Q := by
  have h0 : 0 < d := by omega
  have h8 : 8 < d := by omega
  have em : (31 : Int32) + nI (n / 2) + 1 = nI (n / 2 + 32) := by
    have e1 : (31 : Int32) = nI 31 := rfl
    have e2 : (1 : Int32) = nI 1 := rfl
    rw [e1, e2, nI_add, nI_add]
    congr 1
    omega
  have y5 : cpR 5 = 3100 := rfl
  have y6 : cpR 6 = 3100 := rfl
  have y7 : cpR 7 = 3100 := rfl
  have y8 : cpR 8 = 3100 := rfl
  have n20 : ¬ (2 : Int32) = 0 := by decide
  have lL : ∀ {f : Nat}, f ≠ 4 → ∀ z ∈ [((2 : Nat), Value.int (nI (n / 2 + 32))), (0, Value.ref 4), (1, Value.int (nI n))], ∀ q, z.2 = .ref q → q ≠ f ∧ q < 130 := fun {f} hf z hz q e => by
    simp only [List.mem_cons, List.not_mem_nil, or_false] at hz
    rcases hz with rfl | rfl | rfl
    · cases e
    · injection e with e
      subst e
      exact ⟨Ne.symm hf, by decide⟩
    · cases e
  obtain ⟨c1, m1, g1, _⟩ := cb_J (n := n / 2 + 32) c (r := 5) (by decide) (by omega) (by omega)
  have l5 := (c.2.2.2.2 5 (by decide)).2
  unfold aEv
  simp only [lv_args, z_v, z_lg, z_h, z_u, z_u1, z_c, z_ct, z_sk, sbne, lst1_d, ldel, lst2_d, ldel2, z_sw, z_rok, zi, eq_self, List.map_cons, List.map_nil, List.append_nil, List.nil_append, List.cons_append, Int32.reduceLT, Int32.reduceLE, Int32.reduceAdd, Int32.reduceSub, Int32.reduceMul, Int32.reduceToInt, Int32.reduceToNatClampNeg, Int.reduceLT, Int.reduceLE, Int.reduceNeg, true_and, and_true, or_self, or_false, false_or, false_and, and_false, true_or, or_true, if_true, if_false, ne_eq, Classical.not_not, not_true_eq_false, not_false_eq_true, true_implies, false_implies, implies_true, Nat.reduceEqDiff, Nat.reduceAdd, Nat.reduceLeDiff, Nat.reduceSub, reduceCtorEq, reduceIte, b78_0, skX c.1, srX c.1, n20, div_2 n (by omega), em]
  refine grw_J (st := []) mm_78 dX4_begin_15 ml_4_28 dX4_begin_18 fl_4_9 rfl (by unfold finOK; decide +kernel) (by omega) c.1 c.2.1 c.2.2 (c.1.1 4 (by decide)) (by decide) (c.1.2.1 4 0 rfl) (c.1.1 5 (by decide)) (by decide) (by decide) rt_n.1 (lL (by decide)) (by omega) (by omega) ?_
  have u1 : hv (rmJ h 5 (n / 2 + 32)) 1 = hv h 1 := rmJ_v (by have := c.1.2.2; omega) (by decide)
  generalize rmJ h 5 (n / 2 + 32) = h1 at *
  obtain ⟨c2, m2, g2, _⟩ := cb_J (n := n / 2 + 32) c1 (r := 6) (by decide) (by omega) (by omega)
  have l6 := (c1.2.2.2.2 6 (by decide)).2
  simp only [lv_args, z_v, z_lg, z_h, z_u, z_u1, z_c, z_ct, z_sk, sbne, lst1_d, ldel, lst2_d, ldel2, z_sw, z_rok, zi, eq_self, List.map_cons, List.map_nil, List.append_nil, List.nil_append, List.cons_append, Int32.reduceLT, Int32.reduceLE, Int32.reduceAdd, Int32.reduceSub, Int32.reduceMul, Int32.reduceToInt, Int32.reduceToNatClampNeg, Int.reduceLT, Int.reduceLE, Int.reduceNeg, true_and, and_true, or_self, or_false, false_or, false_and, and_false, true_or, or_true, if_true, if_false, ne_eq, Classical.not_not, not_true_eq_false, not_false_eq_true, true_implies, false_implies, implies_true, Nat.reduceEqDiff, Nat.reduceAdd, Nat.reduceLeDiff, Nat.reduceSub, reduceCtorEq, reduceIte, b78_21, skX c1.1, srX c1.1]
  refine grw_J (st := []) mm_78 dX4_begin_27 ml_4_28 dX4_begin_30 fl_4_15 rfl (by unfold finOK; decide +kernel) (by omega) c1.1 c1.2.1 c1.2.2 (c1.1.1 4 (by decide)) (by decide) (c1.1.2.1 4 1 rfl) (c1.1.1 6 (by decide)) (by decide) (by decide) rt_n.2.1 (lL (by decide)) (by omega) (by omega) ?_
  have x25 := (g2.2.2.2.2.1 5 (by decide) (by decide)).2.2
  have u2 : hv (rmJ h1 6 (n / 2 + 32)) 1 = hv h1 1 := rmJ_v (by have := c1.1.2.2; omega) (by decide)
  generalize rmJ h1 6 (n / 2 + 32) = h2 at *
  obtain ⟨c3, m3, g3, _⟩ := cb_I (n := n / 2 + 32) c2 (r := 7) (by decide) (by omega) (by omega)
  have l7 := (c2.2.2.2.2 7 (by decide)).2
  simp only [lv_args, z_v, z_lg, z_h, z_u, z_u1, z_c, z_ct, z_sk, sbne, lst1_d, ldel, lst2_d, ldel2, z_sw, z_rok, zi, eq_self, List.map_cons, List.map_nil, List.append_nil, List.nil_append, List.cons_append, Int32.reduceLT, Int32.reduceLE, Int32.reduceAdd, Int32.reduceSub, Int32.reduceMul, Int32.reduceToInt, Int32.reduceToNatClampNeg, Int.reduceLT, Int.reduceLE, Int.reduceNeg, true_and, and_true, or_self, or_false, false_or, false_and, and_false, true_or, or_true, if_true, if_false, ne_eq, Classical.not_not, not_true_eq_false, not_false_eq_true, true_implies, false_implies, implies_true, Nat.reduceEqDiff, Nat.reduceAdd, Nat.reduceLeDiff, Nat.reduceSub, reduceCtorEq, reduceIte, b78_33, skX c2.1, srX c2.1]
  refine grw_I (st := []) mm_78 dX4_begin_39 ml_4_34 dX4_begin_42 fl_4_18 rfl (by unfold finOK; decide +kernel) (by omega) c2.1 c2.2.1 c2.2.2 (c2.1.1 4 (by decide)) (by decide) (c2.1.2.1 4 2 rfl) (c2.1.1 7 (by decide)) (by decide) (by decide) rt_n.2.2.1 (lL (by decide)) (by omega) (by omega) ?_
  have x35 := (g3.2.2.2.2.1 5 (by decide) (by decide)).2.2
  have x36 := (g3.2.2.2.2.1 6 (by decide) (by decide)).2.2
  have u3 : hv (rmI h2 7 (n / 2 + 32)) 1 = hv h2 1 := rmI_v (by have := c2.1.2.2; omega) (by decide)
  generalize rmI h2 7 (n / 2 + 32) = h3 at *
  obtain ⟨c4, m4, g4, _⟩ := cb_I (n := n / 2 + 32) c3 (r := 8) (by decide) (by omega) (by omega)
  have l8 := (c3.2.2.2.2 8 (by decide)).2
  simp only [lv_args, z_v, z_lg, z_h, z_u, z_u1, z_c, z_ct, z_sk, sbne, lst1_d, ldel, lst2_d, ldel2, z_sw, z_rok, zi, eq_self, List.map_cons, List.map_nil, List.append_nil, List.nil_append, List.cons_append, Int32.reduceLT, Int32.reduceLE, Int32.reduceAdd, Int32.reduceSub, Int32.reduceMul, Int32.reduceToInt, Int32.reduceToNatClampNeg, Int.reduceLT, Int.reduceLE, Int.reduceNeg, true_and, and_true, or_self, or_false, false_or, false_and, and_false, true_or, or_true, if_true, if_false, ne_eq, Classical.not_not, not_true_eq_false, not_false_eq_true, true_implies, false_implies, implies_true, Nat.reduceEqDiff, Nat.reduceAdd, Nat.reduceLeDiff, Nat.reduceSub, reduceCtorEq, reduceIte, b78_45, skX c3.1, srX c3.1]
  refine grw_I (st := []) mm_78 dX4_begin_51 ml_4_34 dX4_begin_54 fl_4_22 rfl (by unfold finOK; decide +kernel) (by omega) c3.1 c3.2.1 c3.2.2 (c3.1.1 4 (by decide)) (by decide) (c3.1.2.1 4 3 rfl) (c3.1.1 8 (by decide)) (by decide) (by decide) rt_n.2.2.2 (lL (by decide)) (by omega) (by omega) ?_
  have x45 := (g4.2.2.2.2.1 5 (by decide) (by decide)).2.2
  have x46 := (g4.2.2.2.2.1 6 (by decide) (by decide)).2.2
  have x47 := (g4.2.2.2.2.1 7 (by decide) (by decide)).2.2
  have u4 : hv (rmI h3 8 (n / 2 + 32)) 1 = hv h3 1 := rmI_v (by have := c3.1.2.2; omega) (by decide)
  generalize rmI h3 8 (n / 2 + 32) = h4 at *
  have s4 := c4.1
  have n9 : hN h4 9 = 256 := c4.2.2.1.2 (9, 256) (by decide)
  have w5 := (c4.2.2.2.2 5 (by decide)).2
  have v5 : n / 2 + 32 ≤ hN h4 5 := by omega
  have v6 : n / 2 + 32 ≤ hN h4 6 := by omega
  have v7 : n / 2 + 32 ≤ hN h4 7 := by omega
  obtain ⟨k0, k1, k2, k3⟩ := k30_len
  obtain ⟨t0, t1, t2, t3, t4, t5, t6, t7⟩ := sch_cnt
  have s5 : Sk (pA h4 9 (filI (hA h4 9) 256 (-1))) := sk_u3 s4
  simp only [lv_args, z_v, z_lg, z_h, z_u, z_u1, z_c, z_ct, z_sk, sbne, lst1_d, ldel, lst2_d, ldel2, z_sw, z_rok, zi, eq_self, List.map_cons, List.map_nil, List.append_nil, List.nil_append, List.cons_append, Int32.reduceLT, Int32.reduceLE, Int32.reduceAdd, Int32.reduceSub, Int32.reduceMul, Int32.reduceToInt, Int32.reduceToNatClampNeg, Int.reduceLT, Int.reduceLE, Int.reduceNeg, true_and, and_true, or_self, or_false, false_or, false_and, and_false, true_or, or_true, if_true, if_false, ne_eq, Classical.not_not, not_true_eq_false, not_false_eq_true, true_implies, false_implies, implies_true, Nat.reduceEqDiff, Nat.reduceAdd, Nat.reduceLeDiff, Nat.reduceSub, reduceCtorEq, reduceIte, b78_57, skX s4, srX s4, h0]
  refine sp_fillI (n := 256) (s4.1 9 (by decide)) n9 (by decide) ?_
  simp only [lv_args, z_v, z_lg, z_h, z_u, z_u1, z_c, z_ct, z_sk, sbne, lst1_d, ldel, lst2_d, ldel2, z_sw, z_rok, zi, eq_self, List.map_cons, List.map_nil, List.append_nil, List.nil_append, List.cons_append, Int32.reduceLT, Int32.reduceLE, Int32.reduceAdd, Int32.reduceSub, Int32.reduceMul, Int32.reduceToInt, Int32.reduceToNatClampNeg, Int.reduceLT, Int.reduceLE, Int.reduceNeg, true_and, and_true, or_self, or_false, false_or, false_and, and_false, true_or, or_true, if_true, if_false, ne_eq, Classical.not_not, not_true_eq_false, not_false_eq_true, true_implies, false_implies, implies_true, Nat.reduceEqDiff, Nat.reduceAdd, Nat.reduceLeDiff, Nat.reduceSub, reduceCtorEq, reduceIte, b78_57, skX s4, skX s5, Nat.reduceLT]
  have c6 : CB (pI (pI (pA h4 9 (filI (hA h4 9) 256 (-1))) 4 5 0) 4 6 0) := ⟨sk_u1 (sk_u1 s5), c4.2.1, rm_same rfl rfl rfl c4.2.2⟩
  have nt6 : NT [] [] (pI (pI (pA h4 9 (filI (hA h4 9) 256 (-1))) 4 5 0) 4 6 0) := by
    refine ⟨⟨rfl, by decide⟩, fun i k e => (by simp at e), n9, List.nodup_nil, ⟨fun _ => [], fun b hb => ⟨if_pos hb, List.nodup_nil, fun i => ⟨fun e => (by cases e), fun ⟨x, e, _⟩ => (by simp at e)⟩⟩⟩, ⟨rfl, List.nodup_nil, fun t e => (by cases e)⟩, fun i hi => absurd hi (Nat.not_lt_zero i)⟩
  have r6 : n / 2 + 32 ≤ hN (pI (pI (pA h4 9 (filI (hA h4 9) 256 (-1))) 4 5 0) 4 6 0) 5 ∧ n / 2 + 32 ≤ hN (pI (pI (pA h4 9 (filI (hA h4 9) 256 (-1))) 4 5 0) 4 6 0) 6 ∧ n / 2 + 32 ≤ hN (pI (pI (pA h4 9 (filI (hA h4 9) 256 (-1))) 4 5 0) 4 6 0) 7 ∧ n / 2 + 32 ≤ hN (pI (pI (pA h4 9 (filI (hA h4 9) 256 (-1))) 4 5 0) 4 6 0) 8 ∧ hN (pI (pI (pA h4 9 (filI (hA h4 9) 256 (-1))) 4 5 0) 4 6 0) 5 ≤ 3100 := ⟨v5, v6, v7, m4, by show hN h4 5 ≤ 3100; omega⟩
  have u6 : hv (pI (pI (pA h4 9 (filI (hA h4 9) 256 (-1))) 4 5 0) 4 6 0) 1 = hv h4 1 := rfl
  generalize pI (pI (pA h4 9 (filI (hA h4 9) 256 (-1))) 4 5 0) 4 6 0 = H at *
  have room : ∀ {h' : Hp}, FrN H h' → n / 2 + 32 ≤ hN h' 5 ∧ n / 2 + 32 ≤ hN h' 6 ∧ n / 2 + 32 ≤ hN h' 7 ∧ n / 2 + 32 ≤ hN h' 8 ∧ hN h' 5 ≤ 3100 := fun F => by rw [F.2.2.1]; exact r6
  have rm32 : ∀ {h' : Hp}, FrN H h' → 32 ≤ hN h' 5 ∧ 32 ≤ hN h' 6 ∧ 32 ≤ hN h' 7 ∧ 32 ≤ hN h' 8 ∧ hN h' 5 ≤ 10000 := fun F => by have := room F; omega
  have sH := c6.1
  refine (x78_76 d _ _ H Q).mpr ⟨h8, ?_⟩
  simp only [lv_args, z_v, z_lg, z_h, z_u, z_u1, z_c, z_ct, z_sk, sbne, lst1_d, ldel, lst2_d, ldel2, z_sw, z_rok, zi, eq_self, List.map_cons, List.map_nil, List.append_nil, List.nil_append, List.cons_append, Int32.reduceLT, Int32.reduceLE, Int32.reduceAdd, Int32.reduceSub, Int32.reduceMul, Int32.reduceToInt, Int32.reduceToNatClampNeg, Int.reduceLT, Int.reduceLE, Int.reduceNeg, true_and, and_true, or_self, or_false, false_or, false_and, and_false, true_or, or_true, if_true, if_false, ne_eq, Classical.not_not, not_true_eq_false, not_false_eq_true, true_implies, false_implies, implies_true, Nat.reduceEqDiff, Nat.reduceAdd, Nat.reduceLeDiff, Nat.reduceSub, reduceCtorEq, reduceIte, b78_57, skX sH, h0]
  refine sp_takeWords (j := 0) sH nt6 (by decide) (by omega) t4 (by rw [t0]; decide) (rm32 frn_rf) (fun h7 nt7 F7 => ?_)
  have s7 := frn_sk F7 sH
  simp only [lv_args, z_v, z_lg, z_h, z_u, z_u1, z_c, z_ct, z_sk, sbne, lst1_d, ldel, lst2_d, ldel2, z_sw, z_rok, zi, eq_self, List.map_cons, List.map_nil, List.append_nil, List.nil_append, List.cons_append, Int32.reduceLT, Int32.reduceLE, Int32.reduceAdd, Int32.reduceSub, Int32.reduceMul, Int32.reduceToInt, Int32.reduceToNatClampNeg, Int.reduceLT, Int.reduceLE, Int.reduceNeg, true_and, and_true, or_self, or_false, false_or, false_and, and_false, true_or, or_true, if_true, if_false, ne_eq, Classical.not_not, not_true_eq_false, not_false_eq_true, true_implies, false_implies, implies_true, Nat.reduceEqDiff, Nat.reduceAdd, Nat.reduceLeDiff, Nat.reduceSub, reduceCtorEq, reduceIte, b78_57, skX sH, skX s7, Nat.reduceLT]
  refine (x78_82 d _ _ h7 Q).mpr ⟨h8, ?_⟩
  simp only [lv_args, z_v, z_lg, z_h, z_u, z_u1, z_c, z_ct, z_sk, sbne, lst1_d, ldel, lst2_d, ldel2, z_sw, z_rok, zi, eq_self, List.map_cons, List.map_nil, List.append_nil, List.nil_append, List.cons_append, Int32.reduceLT, Int32.reduceLE, Int32.reduceAdd, Int32.reduceSub, Int32.reduceMul, Int32.reduceToInt, Int32.reduceToNatClampNeg, Int.reduceLT, Int.reduceLE, Int.reduceNeg, true_and, and_true, or_self, or_false, false_or, false_and, and_false, true_or, or_true, if_true, if_false, ne_eq, Classical.not_not, not_true_eq_false, not_false_eq_true, true_implies, false_implies, implies_true, Nat.reduceEqDiff, Nat.reduceAdd, Nat.reduceLeDiff, Nat.reduceSub, reduceCtorEq, reduceIte, b78_57, skX s7, h0]
  refine sp_takeWords (j := 1) s7 nt7 (by decide) (by omega) t5 (by rw [t1, k0]; decide) (rm32 F7) (fun h8' nt8 F8 => ?_)
  have s8 := frn_sk F8 s7
  simp only [lv_args, z_v, z_lg, z_h, z_u, z_u1, z_c, z_ct, z_sk, sbne, lst1_d, ldel, lst2_d, ldel2, z_sw, z_rok, zi, eq_self, List.map_cons, List.map_nil, List.append_nil, List.nil_append, List.cons_append, Int32.reduceLT, Int32.reduceLE, Int32.reduceAdd, Int32.reduceSub, Int32.reduceMul, Int32.reduceToInt, Int32.reduceToNatClampNeg, Int.reduceLT, Int.reduceLE, Int.reduceNeg, true_and, and_true, or_self, or_false, false_or, false_and, and_false, true_or, or_true, if_true, if_false, ne_eq, Classical.not_not, not_true_eq_false, not_false_eq_true, true_implies, false_implies, implies_true, Nat.reduceEqDiff, Nat.reduceAdd, Nat.reduceLeDiff, Nat.reduceSub, reduceCtorEq, reduceIte, b78_57, skX s7, skX s8, Nat.reduceLT]
  refine (x78_88 d _ _ h8' Q).mpr ⟨h8, ?_⟩
  simp only [lv_args, z_v, z_lg, z_h, z_u, z_u1, z_c, z_ct, z_sk, sbne, lst1_d, ldel, lst2_d, ldel2, z_sw, z_rok, zi, eq_self, List.map_cons, List.map_nil, List.append_nil, List.nil_append, List.cons_append, Int32.reduceLT, Int32.reduceLE, Int32.reduceAdd, Int32.reduceSub, Int32.reduceMul, Int32.reduceToInt, Int32.reduceToNatClampNeg, Int.reduceLT, Int.reduceLE, Int.reduceNeg, true_and, and_true, or_self, or_false, false_or, false_and, and_false, true_or, or_true, if_true, if_false, ne_eq, Classical.not_not, not_true_eq_false, not_false_eq_true, true_implies, false_implies, implies_true, Nat.reduceEqDiff, Nat.reduceAdd, Nat.reduceLeDiff, Nat.reduceSub, reduceCtorEq, reduceIte, b78_57, skX s8, h0]
  refine sp_takeWords (j := 2) s8 nt8 (by decide) (by omega) t6 (by rw [t2, k1]; decide) (rm32 (frn_tr F7 F8)) (fun h9 nt9 F9 => ?_)
  have s9 := frn_sk F9 s8
  simp only [lv_args, z_v, z_lg, z_h, z_u, z_u1, z_c, z_ct, z_sk, sbne, lst1_d, ldel, lst2_d, ldel2, z_sw, z_rok, zi, eq_self, List.map_cons, List.map_nil, List.append_nil, List.nil_append, List.cons_append, Int32.reduceLT, Int32.reduceLE, Int32.reduceAdd, Int32.reduceSub, Int32.reduceMul, Int32.reduceToInt, Int32.reduceToNatClampNeg, Int.reduceLT, Int.reduceLE, Int.reduceNeg, true_and, and_true, or_self, or_false, false_or, false_and, and_false, true_or, or_true, if_true, if_false, ne_eq, Classical.not_not, not_true_eq_false, not_false_eq_true, true_implies, false_implies, implies_true, Nat.reduceEqDiff, Nat.reduceAdd, Nat.reduceLeDiff, Nat.reduceSub, reduceCtorEq, reduceIte, b78_57, skX s8, skX s9, Nat.reduceLT]
  refine (x78_94 d _ _ h9 Q).mpr ⟨h8, ?_⟩
  simp only [lv_args, z_v, z_lg, z_h, z_u, z_u1, z_c, z_ct, z_sk, sbne, lst1_d, ldel, lst2_d, ldel2, z_sw, z_rok, zi, eq_self, List.map_cons, List.map_nil, List.append_nil, List.nil_append, List.cons_append, Int32.reduceLT, Int32.reduceLE, Int32.reduceAdd, Int32.reduceSub, Int32.reduceMul, Int32.reduceToInt, Int32.reduceToNatClampNeg, Int.reduceLT, Int.reduceLE, Int.reduceNeg, true_and, and_true, or_self, or_false, false_or, false_and, and_false, true_or, or_true, if_true, if_false, ne_eq, Classical.not_not, not_true_eq_false, not_false_eq_true, true_implies, false_implies, implies_true, Nat.reduceEqDiff, Nat.reduceAdd, Nat.reduceLeDiff, Nat.reduceSub, reduceCtorEq, reduceIte, b78_57, skX s9, h0]
  refine sp_takeWords (j := 3) s9 nt9 (by decide) (by omega) t7 (by rw [t3, k2]; decide) (rm32 (frn_tr F7 (frn_tr F8 F9))) (fun h10 nt10 F10 => ?_)
  simp only [lv_args, z_v, z_lg, z_h, z_u, z_u1, z_c, z_ct, z_sk, sbne, lst1_d, ldel, lst2_d, ldel2, z_sw, z_rok, zi, eq_self, List.map_cons, List.map_nil, List.append_nil, List.nil_append, List.cons_append, Int32.reduceLT, Int32.reduceLE, Int32.reduceAdd, Int32.reduceSub, Int32.reduceMul, Int32.reduceToInt, Int32.reduceToNatClampNeg, Int.reduceLT, Int.reduceLE, Int.reduceNeg, true_and, and_true, or_self, or_false, false_or, false_and, and_false, true_or, or_true, if_true, if_false, ne_eq, Classical.not_not, not_true_eq_false, not_false_eq_true, true_implies, false_implies, implies_true, Nat.reduceEqDiff, Nat.reduceAdd, Nat.reduceLeDiff, Nat.reduceSub, reduceCtorEq, reduceIte, b78_57, skX s9, Nat.reduceLT]
  have FF := frn_tr F7 (frn_tr F8 (frn_tr F9 F10))
  obtain ⟨a1, a2, a3, a4, _⟩ := room FF
  exact hq h10 (frn_cb FF c6) nt10 ⟨a1, a2, a3, a4⟩ (by rw [FF.2.2.2.2.2.1, u6, u4, u3, u2, u1])
end NMB
