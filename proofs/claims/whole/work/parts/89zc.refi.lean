/-! lets; what is to do goes on -/
section REI
variable {h h' : Hp} {Q : Option Value → Hp → Prop} {d : Nat} {G : PG} {q : Nat} {qv : Nat → Int64} {r n : Nat} {td : List TD} {z : RSt} {N : Int32} {md : Option Nat} {nw v : Int64} {wk : List Int64} {X : (List Nat × Nat × Option Nat) × (List Int64 × List (Nat × List Nat) × List (Int64 × Int64) × Nat × List Int64) × (List Int32 × List Int32 × Nat × Nat × Nat × Int64 × Nat)}
theorem nI_m1' {a : Nat} (h : a < 10000) : ¬ nI a = -1 := fun c => by
  have := congrArg Int32.toInt c
  rw [nI_toInt (by omega)] at this
  have h2 : (-1 : Int32).toInt = -1 := by decide
  omega
theorem rs_5 {y y' : RSt} (hr : RS1 G qv 5 y y') (r : RM G q qv y h) (hb : Bnd y) (hd : 20 < d) (hq : ∀ h', RM G q qv y' h' → aWP d 257 35 (LR N) [] h' Q) : aWP d 257 35 (LR N) [] h Q := by
  obtain ⟨⟨md, nw, td, wk⟩, X⟩ := y
  cases md with
  | none => exact hr.elim
  | some n =>
    obtain ⟨hn, h4, c, i, b, p, l, a, v, hc, hw, hl, hp, rfl⟩ := hr
    have S := r.1
    have s := S.1
    have h0 : 0 < d - 1 - 1 := by omega
    have h02 : 0 < d - 1 - 1 - 1 := by omega
    have hb1 : td.length ≤ 44990 := by have hb1 : td.length ≤ 44000 := hb.1; omega
    have z1 : (1 : Int32) = nI 1 := rfl
    have P := S.2.2.2.1
    have r17 := S.2.2.2.2.1
    have hi : i < pNn G := hc.2.2.2.1
    have hpn : p < pNn G := hl.2.1
    have pn := P.2.2.1
    obtain ⟨⟨k0, k1, k2, k4, k5, _⟩, w7, w8, w10, w11, _⟩ := prf s P.1
    obtain ⟨p1, p2, p3⟩ := pm_n P (j := 4) (by decide) (by decide) hi
    have p2 : hA h (q + 4) i = nI p := p2.trans hl.1
    have ne := nI_m1' (a := p) (by omega)
    refine ls_go r (by omega) (wl_w S hn (by omega) h4 hc hw (t := 106) rfl ?_)
    simp only [lv_args, z_v, z_lg, z_h, z_u, z_u1, z_c, z_ct, z_sk, sbne, lst1_d, ldel, lst2_d, ldel2, z_sw, z_rok, zi, eq_self, List.map_cons, List.map_nil, List.append_nil, List.nil_append, List.cons_append, Int32.reduceLT, Int32.reduceLE, Int32.reduceAdd, Int32.reduceSub, Int32.reduceMul, Int32.reduceToInt, Int32.reduceToNatClampNeg, Int.reduceLT, Int.reduceLE, Int.reduceNeg, true_and, and_true, or_self, or_false, false_or, false_and, and_false, true_or, or_true, if_true, if_false, ne_eq, Classical.not_not, not_true_eq_false, not_false_eq_true, true_implies, false_implies, implies_true, Nat.reduceEqDiff, Nat.reduceAdd, Nat.reduceLeDiff, Nat.reduceSub, reduceCtorEq, reduceIte, b277_106, skM s, h0, z1]
    refine sp_part S hn hc (i := 1) (m := i) rfl (by decide) ?_
    simp only [lv_args, z_v, z_lg, z_h, z_u, z_u1, z_c, z_ct, z_sk, sbne, lst1_d, ldel, lst2_d, ldel2, z_sw, z_rok, zi, eq_self, List.map_cons, List.map_nil, List.append_nil, List.nil_append, List.cons_append, Int32.reduceLT, Int32.reduceLE, Int32.reduceAdd, Int32.reduceSub, Int32.reduceMul, Int32.reduceToInt, Int32.reduceToNatClampNeg, Int.reduceLT, Int.reduceLE, Int.reduceNeg, true_and, and_true, or_self, or_false, false_or, false_and, and_false, true_or, or_true, if_true, if_false, ne_eq, Classical.not_not, not_true_eq_false, not_false_eq_true, true_implies, false_implies, implies_true, Nat.reduceEqDiff, Nat.reduceAdd, Nat.reduceLeDiff, Nat.reduceSub, reduceCtorEq, reduceIte, b277_106, skM s, h0]
    unfold aEv
    simp only [lv_args, z_v, z_lg, z_h, z_u, z_u1, z_c, z_ct, z_sk, sbne, lst1_d, ldel, lst2_d, ldel2, z_sw, z_rok, zi, eq_self, List.map_cons, List.map_nil, List.append_nil, List.nil_append, List.cons_append, Int32.reduceLT, Int32.reduceLE, Int32.reduceAdd, Int32.reduceSub, Int32.reduceMul, Int32.reduceToInt, Int32.reduceToNatClampNeg, Int.reduceLT, Int.reduceLE, Int.reduceNeg, true_and, and_true, or_self, or_false, false_or, false_and, and_false, true_or, or_true, if_true, if_false, ne_eq, Classical.not_not, not_true_eq_false, not_false_eq_true, true_implies, false_implies, implies_true, Nat.reduceEqDiff, Nat.reduceAdd, Nat.reduceLeDiff, Nat.reduceSub, reduceCtorEq, reduceIte, b233_0, skM s, r17, k0, w10, k4]
    simp (disch := omega) only [nI_ti, nI_cl, le0N, ltNN, p1, p2, true_and]
    refine ⟨p3, ?_⟩
    simp only [lv_args, z_v, z_lg, z_h, z_u, z_u1, z_c, z_ct, z_sk, sbne, lst1_d, ldel, lst2_d, ldel2, z_sw, z_rok, zi, eq_self, List.map_cons, List.map_nil, List.append_nil, List.nil_append, List.cons_append, Int32.reduceLT, Int32.reduceLE, Int32.reduceAdd, Int32.reduceSub, Int32.reduceMul, Int32.reduceToInt, Int32.reduceToNatClampNeg, Int.reduceLT, Int.reduceLE, Int.reduceNeg, true_and, and_true, or_self, or_false, false_or, false_and, and_false, true_or, or_true, if_true, if_false, ne_eq, Classical.not_not, not_true_eq_false, not_false_eq_true, true_implies, false_implies, implies_true, Nat.reduceEqDiff, Nat.reduceAdd, Nat.reduceLeDiff, Nat.reduceSub, reduceCtorEq, reduceIte, b233_0, ne]
    simp only [lv_args, z_v, z_lg, z_h, z_u, z_u1, z_c, z_ct, z_sk, sbne, lst1_d, ldel, lst2_d, ldel2, z_sw, z_rok, zi, eq_self, List.map_cons, List.map_nil, List.append_nil, List.nil_append, List.cons_append, Int32.reduceLT, Int32.reduceLE, Int32.reduceAdd, Int32.reduceSub, Int32.reduceMul, Int32.reduceToInt, Int32.reduceToNatClampNeg, Int.reduceLT, Int.reduceLE, Int.reduceNeg, true_and, and_true, or_self, or_false, false_or, false_and, and_false, true_or, or_true, if_true, if_false, ne_eq, Classical.not_not, not_true_eq_false, not_false_eq_true, true_implies, false_implies, implies_true, Nat.reduceEqDiff, Nat.reduceAdd, Nat.reduceLeDiff, Nat.reduceSub, reduceCtorEq, reduceIte, b233_26, skM s, h02]
    refine sp_todo (k := 5) S (by omega) r.2.2.1 hb1 (by decide) fun h' S' kk t' => ?_
    have r' := rm_todo r S' kk t'
    have s' := S'.1
    simp only [lv_args, z_v, z_lg, z_h, z_u, z_u1, z_c, z_ct, z_sk, sbne, lst1_d, ldel, lst2_d, ldel2, z_sw, z_rok, zi, eq_self, List.map_cons, List.map_nil, List.append_nil, List.nil_append, List.cons_append, Int32.reduceLT, Int32.reduceLE, Int32.reduceAdd, Int32.reduceSub, Int32.reduceMul, Int32.reduceToInt, Int32.reduceToNatClampNeg, Int.reduceLT, Int.reduceLE, Int.reduceNeg, true_and, and_true, or_self, or_false, false_or, false_and, and_false, true_or, or_true, if_true, if_false, ne_eq, Classical.not_not, not_true_eq_false, not_false_eq_true, true_implies, false_implies, implies_true, Nat.reduceEqDiff, Nat.reduceAdd, Nat.reduceLeDiff, Nat.reduceSub, reduceCtorEq, reduceIte, b233_26, skM s, skM s', h02, Nat.reduceLT, z1]
    refine sp_part S' hpn hp (i := 1) (m := v) rfl (by decide) ?_
    simp only [lv_args, z_v, z_lg, z_h, z_u, z_u1, z_c, z_ct, z_sk, sbne, lst1_d, ldel, lst2_d, ldel2, z_sw, z_rok, zi, eq_self, List.map_cons, List.map_nil, List.append_nil, List.nil_append, List.cons_append, Int32.reduceLT, Int32.reduceLE, Int32.reduceAdd, Int32.reduceSub, Int32.reduceMul, Int32.reduceToInt, Int32.reduceToNatClampNeg, Int.reduceLT, Int.reduceLE, Int.reduceNeg, true_and, and_true, or_self, or_false, false_or, false_and, and_false, true_or, or_true, if_true, if_false, ne_eq, Classical.not_not, not_true_eq_false, not_false_eq_true, true_implies, false_implies, implies_true, Nat.reduceEqDiff, Nat.reduceAdd, Nat.reduceLeDiff, Nat.reduceSub, reduceCtorEq, reduceIte, b233_26, skM s', h02, e206_59 _ _ s']
    simp only [lv_args, z_v, z_lg, z_h, z_u, z_u1, z_c, z_ct, z_sk, sbne, lst1_d, ldel, lst2_d, ldel2, z_sw, z_rok, zi, eq_self, List.map_cons, List.map_nil, List.append_nil, List.nil_append, List.cons_append, Int32.reduceLT, Int32.reduceLE, Int32.reduceAdd, Int32.reduceSub, Int32.reduceMul, Int32.reduceToInt, Int32.reduceToNatClampNeg, Int.reduceLT, Int.reduceLE, Int.reduceNeg, true_and, and_true, or_self, or_false, false_or, false_and, and_false, true_or, or_true, if_true, if_false, ne_eq, Classical.not_not, not_true_eq_false, not_false_eq_true, true_implies, false_implies, implies_true, Nat.reduceEqDiff, Nat.reduceAdd, Nat.reduceLeDiff, Nat.reduceSub, reduceCtorEq, reduceIte, b277_106, b277_218, skM s, Nat.reduceLT]
    exact pr_ok (rm_form r') hq
theorem rs_6 {y y' : RSt} (hr : RS1 G qv 6 y y') (r : RM G q qv y h) (hb : Bnd y) (hd : 20 < d) (hq : ∀ h', RM G q qv y' h' → aWP d 257 35 (LR N) [] h' Q) : aWP d 257 35 (LR N) [] h Q := by
  obtain ⟨⟨md, nw, td, wk⟩, X⟩ := y
  cases md with
  | none => exact hr.elim
  | some n =>
    obtain ⟨hn, h4, c, i, a, b, hc, hw, hl, rfl⟩ := hr
    have S := r.1
    have s := S.1
    have h0 : 0 < d - 1 - 1 := by omega
    have h02 : 0 < d - 1 - 1 - 1 := by omega
    have hb1 : td.length ≤ 44990 := by have hb1 : td.length ≤ 44000 := hb.1; omega
    have z1 : (1 : Int32) = nI 1 := rfl
    have z2 : (2 : Int32) = nI 2 := rfl
    have P := S.2.2.2.1
    have r17 := S.2.2.2.2.1
    have hi : i < pNn G := hc.2.2.2.1
    have pn := P.2.2.1
    have hch : Chn G (G.1 25 i) (a :: b) := hc.2.2.2.2
    obtain ⟨⟨k0, k1, k2, k4, k5, _⟩, w7, w8, w10, w11, _⟩ := prf s P.1
    obtain ⟨p1, p2, p3⟩ := pm_n P (j := 4) (by decide) (by decide) hi
    have p2 : hA h (q + 4) i = -1 := p2.trans hl
    refine ls_go r (by omega) (wl_w S hn (by omega) h4 hc hw (t := 106) rfl ?_)
    simp only [lv_args, z_v, z_lg, z_h, z_u, z_u1, z_c, z_ct, z_sk, sbne, lst1_d, ldel, lst2_d, ldel2, z_sw, z_rok, zi, eq_self, List.map_cons, List.map_nil, List.append_nil, List.nil_append, List.cons_append, Int32.reduceLT, Int32.reduceLE, Int32.reduceAdd, Int32.reduceSub, Int32.reduceMul, Int32.reduceToInt, Int32.reduceToNatClampNeg, Int.reduceLT, Int.reduceLE, Int.reduceNeg, true_and, and_true, or_self, or_false, false_or, false_and, and_false, true_or, or_true, if_true, if_false, ne_eq, Classical.not_not, not_true_eq_false, not_false_eq_true, true_implies, false_implies, implies_true, Nat.reduceEqDiff, Nat.reduceAdd, Nat.reduceLeDiff, Nat.reduceSub, reduceCtorEq, reduceIte, b277_106, skM s, h0, z1]
    refine sp_part S hn hc (i := 1) (m := i) rfl (by decide) ?_
    simp only [lv_args, z_v, z_lg, z_h, z_u, z_u1, z_c, z_ct, z_sk, sbne, lst1_d, ldel, lst2_d, ldel2, z_sw, z_rok, zi, eq_self, List.map_cons, List.map_nil, List.append_nil, List.nil_append, List.cons_append, Int32.reduceLT, Int32.reduceLE, Int32.reduceAdd, Int32.reduceSub, Int32.reduceMul, Int32.reduceToInt, Int32.reduceToNatClampNeg, Int.reduceLT, Int.reduceLE, Int.reduceNeg, true_and, and_true, or_self, or_false, false_or, false_and, and_false, true_or, or_true, if_true, if_false, ne_eq, Classical.not_not, not_true_eq_false, not_false_eq_true, true_implies, false_implies, implies_true, Nat.reduceEqDiff, Nat.reduceAdd, Nat.reduceLeDiff, Nat.reduceSub, reduceCtorEq, reduceIte, b277_106, skM s, h0]
    unfold aEv
    simp only [lv_args, z_v, z_lg, z_h, z_u, z_u1, z_c, z_ct, z_sk, sbne, lst1_d, ldel, lst2_d, ldel2, z_sw, z_rok, zi, eq_self, List.map_cons, List.map_nil, List.append_nil, List.nil_append, List.cons_append, Int32.reduceLT, Int32.reduceLE, Int32.reduceAdd, Int32.reduceSub, Int32.reduceMul, Int32.reduceToInt, Int32.reduceToNatClampNeg, Int.reduceLT, Int.reduceLE, Int.reduceNeg, true_and, and_true, or_self, or_false, false_or, false_and, and_false, true_or, or_true, if_true, if_false, ne_eq, Classical.not_not, not_true_eq_false, not_false_eq_true, true_implies, false_implies, implies_true, Nat.reduceEqDiff, Nat.reduceAdd, Nat.reduceLeDiff, Nat.reduceSub, reduceCtorEq, reduceIte, b233_0, skM s, r17, k0, w10, k4]
    simp (disch := omega) only [nI_ti, nI_cl, le0N, ltNN, p1, p2, true_and]
    refine ⟨p3, ?_⟩
    try simp only [lv_args, z_v, z_lg, z_h, z_u, z_u1, z_c, z_ct, z_sk, sbne, lst1_d, ldel, lst2_d, ldel2, z_sw, z_rok, zi, eq_self, List.map_cons, List.map_nil, List.append_nil, List.nil_append, List.cons_append, Int32.reduceLT, Int32.reduceLE, Int32.reduceAdd, Int32.reduceSub, Int32.reduceMul, Int32.reduceToInt, Int32.reduceToNatClampNeg, Int.reduceLT, Int.reduceLE, Int.reduceNeg, true_and, and_true, or_self, or_false, false_or, false_and, and_false, true_or, or_true, if_true, if_false, ne_eq, Classical.not_not, not_true_eq_false, not_false_eq_true, true_implies, false_implies, implies_true, Nat.reduceEqDiff, Nat.reduceAdd, Nat.reduceLeDiff, Nat.reduceSub, reduceCtorEq, reduceIte, b233_0]
    simp only [lv_args, z_v, z_lg, z_h, z_u, z_u1, z_c, z_ct, z_sk, sbne, lst1_d, ldel, lst2_d, ldel2, z_sw, z_rok, zi, eq_self, List.map_cons, List.map_nil, List.append_nil, List.nil_append, List.cons_append, Int32.reduceLT, Int32.reduceLE, Int32.reduceAdd, Int32.reduceSub, Int32.reduceMul, Int32.reduceToInt, Int32.reduceToNatClampNeg, Int.reduceLT, Int.reduceLE, Int.reduceNeg, true_and, and_true, or_self, or_false, false_or, false_and, and_false, true_or, or_true, if_true, if_false, ne_eq, Classical.not_not, not_true_eq_false, not_false_eq_true, true_implies, false_implies, implies_true, Nat.reduceEqDiff, Nat.reduceAdd, Nat.reduceLeDiff, Nat.reduceSub, reduceCtorEq, reduceIte, b233_15, skM s, h02, z2]
    refine sp_part S hn hc (i := 2) (m := a) rfl (by decide) ?_
    simp only [lv_args, z_v, z_lg, z_h, z_u, z_u1, z_c, z_ct, z_sk, sbne, lst1_d, ldel, lst2_d, ldel2, z_sw, z_rok, zi, eq_self, List.map_cons, List.map_nil, List.append_nil, List.nil_append, List.cons_append, Int32.reduceLT, Int32.reduceLE, Int32.reduceAdd, Int32.reduceSub, Int32.reduceMul, Int32.reduceToInt, Int32.reduceToNatClampNeg, Int.reduceLT, Int.reduceLE, Int.reduceNeg, true_and, and_true, or_self, or_false, false_or, false_and, and_false, true_or, or_true, if_true, if_false, ne_eq, Classical.not_not, not_true_eq_false, not_false_eq_true, true_implies, false_implies, implies_true, Nat.reduceEqDiff, Nat.reduceAdd, Nat.reduceLeDiff, Nat.reduceSub, reduceCtorEq, reduceIte, b233_15, skM s, h02]
    refine sp_forms S (by omega) r.2.2.1 r.2.1 hb1 hch fun h' S' k2 k3 k4 k5 k6 k7 t' c' => ?_
    simp only [lv_args, z_v, z_lg, z_h, z_u, z_u1, z_c, z_ct, z_sk, sbne, lst1_d, ldel, lst2_d, ldel2, z_sw, z_rok, zi, eq_self, List.map_cons, List.map_nil, List.append_nil, List.nil_append, List.cons_append, Int32.reduceLT, Int32.reduceLE, Int32.reduceAdd, Int32.reduceSub, Int32.reduceMul, Int32.reduceToInt, Int32.reduceToNatClampNeg, Int.reduceLT, Int.reduceLE, Int.reduceNeg, true_and, and_true, or_self, or_false, false_or, false_and, and_false, true_or, or_true, if_true, if_false, ne_eq, Classical.not_not, not_true_eq_false, not_false_eq_true, true_implies, false_implies, implies_true, Nat.reduceEqDiff, Nat.reduceAdd, Nat.reduceLeDiff, Nat.reduceSub, reduceCtorEq, reduceIte, b233_15, b277_106, b277_218, skM s, Nat.reduceLT]
    exact pr_ok (rm_forms r S' k2 k3 k4 k5 k6 k7 t' c') hq
/-- the top entry is taken off -/
theorem rm_pop {e : TD} (r : RM G q qv ((md, nw, e :: td, wk), X) h) : RM G q qv ((md, nw, td, wk), X) (pI h 59 50 (nI td.length)) := by
  obtain ⟨r1, r2, ⟨t1, t2, t3, t4, t5⟩, r4, r5, r6, r7, r8, r9, r10, r11⟩ := r
  have t2 : (e :: td).length ≤ hN h 122 := t2
  simp only [List.length_cons] at t2
  refine ⟨sm_I r1, r2, ⟨rfl, show td.length ≤ hN h 122 by omega, t3, t4, fun j x qe => ?_⟩, r4, r5, r6, r7, r8, r9, r10, r11⟩
  refine t5 j x ?_
  show (e :: td).reverse[j]? = some x
  rw [List.reverse_cons]
  exact g_app qe
theorem vl_go {k t : Nat} {a m : Int32} (r : RM G q qv ((none, nw, (k, a, m) :: td, wk), X) h) (hd : 2 < d) (ht : swL [(0, 101), (1, 109), (2, 137), (3, 157), (4, 177), (5, 185), (6, 194), (7, 203), (8, 264), (9, 92)] (nI k) 295 = t) (hq : aWP (d - 1) 213 t [(2, .int m), (1, .int a), (0, .ref 59)] [] (pI h 59 50 (nI td.length)) (PR d N Q)) : aWP d 257 35 (LR N) [] h Q := by
  obtain ⟨r1, ⟨_, r2⟩, ⟨t1, t2, ⟨t3, t3b⟩, t4, t5⟩, r4, r5, r6, r7, r8, r9, r10, r11⟩ := r
  have s := r1.1
  have t1 : hI h 59 50 = nI (td.length + 1) := t1
  have t2 : td.length + 1 ≤ hN h 122 := t2
  obtain ⟨g1, g2, g3, g4⟩ := t5 td.length (k, a, m) rev_last
  have g1 : hA h 122 td.length = nI k := g1
  have g2 : hA h 123 td.length = a := g2
  have g3 : hA h 124 td.length = m := g3
  rcases r2 with ⟨n', e1, _⟩ | ⟨_, e2⟩
  · cases e1
  · refine rl_V s (by omega) r10 r11.1 e2 ?_
    unfold aEv
    simp only [lv_args, z_v, z_lg, z_h, z_u, z_u1, z_c, z_ct, z_sk, sbne, lst1_d, ldel, lst2_d, ldel2, z_rok, zi, eq_self, List.map_cons, List.map_nil, List.append_nil, List.nil_append, List.cons_append, Int32.reduceLT, Int32.reduceLE, Int32.reduceAdd, Int32.reduceSub, Int32.reduceMul, Int32.reduceToInt, Int32.reduceToNatClampNeg, Int.reduceLT, Int.reduceLE, Int.reduceNeg, true_and, and_true, or_self, or_false, false_or, false_and, and_false, true_or, or_true, if_true, if_false, ne_eq, Classical.not_not, not_true_eq_false, not_false_eq_true, true_implies, false_implies, implies_true, Nat.reduceEqDiff, Nat.reduceAdd, Nat.reduceLeDiff, Nat.reduceSub, reduceCtorEq, reduceIte, b213_0, skM s, srM s, t1, nI_m1]
    simp (disch := omega) only [nI_ti, nI_cl, le0N, ltNN, g1, g2, g3, t3, t3b, true_and]
    refine ⟨by omega, by omega, by omega, ?_⟩
    refine sw_at ?_
    rw [ht]
    exact hq
theorem rs_13 {y y' : RSt} (hr : RS1 G qv 13 y y') (r : RM G q qv y h) (hb : Bnd y) (hd : 20 < d) (hq : ∀ h', RM G q qv y' h' → aWP d 257 35 (LR N) [] h' Q) : aWP d 257 35 (LR N) [] h Q := by
  obtain ⟨⟨md, nw, td0, wk⟩, X⟩ := y
  match md, td0, hr with
  | none, (0, n, m) :: td, hr =>
    obtain ⟨a, l, hc, rfl⟩ := hr
    have r' := rm_pop r
    have S := r'.1
    have s := r.1.1
    have h0 : 0 < d - 1 := by omega
    have hb1 : td.length ≤ 44990 := by have hb1 : td.length + 1 ≤ 44000 := hb.1; omega
    refine vl_go r (by omega) (t := 101) rfl ?_
    rw [hc.1]
    simp only [lv_args, z_v, z_lg, z_h, z_u, z_u1, z_c, z_ct, z_sk, sbne, lst1_d, ldel, lst2_d, ldel2, z_sw, z_rok, zi, eq_self, List.map_cons, List.map_nil, List.append_nil, List.nil_append, List.cons_append, Int32.reduceLT, Int32.reduceLE, Int32.reduceAdd, Int32.reduceSub, Int32.reduceMul, Int32.reduceToInt, Int32.reduceToNatClampNeg, Int.reduceLT, Int.reduceLE, Int.reduceNeg, true_and, and_true, or_self, or_false, false_or, false_and, and_false, true_or, or_true, if_true, if_false, ne_eq, Classical.not_not, not_true_eq_false, not_false_eq_true, true_implies, false_implies, implies_true, Nat.reduceEqDiff, Nat.reduceAdd, Nat.reduceLeDiff, Nat.reduceSub, reduceCtorEq, reduceIte, b213_101, skM s, h0]
    refine sp_forms S (by omega) r'.2.2.1 r'.2.1 hb1 hc fun h' S' k2 k3 k4 k5 k6 k7 t' c' => ?_
    simp only [lv_args, z_v, z_lg, z_h, z_u, z_u1, z_c, z_ct, z_sk, sbne, lst1_d, ldel, lst2_d, ldel2, z_sw, z_rok, zi, eq_self, List.map_cons, List.map_nil, List.append_nil, List.nil_append, List.cons_append, Int32.reduceLT, Int32.reduceLE, Int32.reduceAdd, Int32.reduceSub, Int32.reduceMul, Int32.reduceToInt, Int32.reduceToNatClampNeg, Int.reduceLT, Int.reduceLE, Int.reduceNeg, true_and, and_true, or_self, or_false, false_or, false_and, and_false, true_or, or_true, if_true, if_false, ne_eq, Classical.not_not, not_true_eq_false, not_false_eq_true, true_implies, false_implies, implies_true, Nat.reduceEqDiff, Nat.reduceAdd, Nat.reduceLeDiff, Nat.reduceSub, reduceCtorEq, reduceIte, b213_101, b213_300, skM s, Nat.reduceLT]
    exact pr_ok (rm_forms r' S' k2 k3 k4 k5 k6 k7 t' c') hq
theorem rs_14 {y y' : RSt} (hr : RS1 G qv 14 y y') (r : RM G q qv y h) (hb : Bnd y) (hd : 20 < d) (hq : ∀ h', RM G q qv y' h' → aWP d 257 35 (LR N) [] h' Q) : aWP d 257 35 (LR N) [] h Q := by
  obtain ⟨⟨md, nw, td0, wk⟩, X⟩ := y
  match md, td0, hr with
  | none, (1, n, m) :: td, hr =>
    obtain ⟨i, c, a, b, e, rfl, hi, hc, rfl⟩ := hr
    have r' := rm_pop r
    have S := r'.1
    have s := r.1.1
    have s' := S.1
    have h0 : 0 < d - 1 := by omega
    have enw : hL h 59 65 = nw := r.2.1.1
    have ef : (8589934592 : Int64) = vof 2 0 := by decide
    have z2 : (2 : Int32) = nI 2 := rfl
    have z3 : (3 : Int32) = nI 3 := rfl
    refine vl_go r (by omega) (t := 109) rfl ?_
    simp only [lv_args, z_v, z_lg, z_h, z_u, z_u1, z_c, z_ct, z_sk, sbne, lst1_d, ldel, lst2_d, ldel2, z_sw, z_rok, zi, eq_self, List.map_cons, List.map_nil, List.append_nil, List.nil_append, List.cons_append, Int32.reduceLT, Int32.reduceLE, Int32.reduceAdd, Int32.reduceSub, Int32.reduceMul, Int32.reduceToInt, Int32.reduceToNatClampNeg, Int.reduceLT, Int.reduceLE, Int.reduceNeg, true_and, and_true, or_self, or_false, false_or, false_and, and_false, true_or, or_true, if_true, if_false, ne_eq, Classical.not_not, not_true_eq_false, not_false_eq_true, true_implies, false_implies, implies_true, Nat.reduceEqDiff, Nat.reduceAdd, Nat.reduceLeDiff, Nat.reduceSub, reduceCtorEq, reduceIte, b213_109, skM s, h0, enw, cmp_0, ef]
    refine ⟨fun cf => ?_, fun cf => ?_⟩
    · rw [if_pos cf] at hq
      simp only [lv_args, z_v, z_lg, z_h, z_u, z_u1, z_c, z_ct, z_sk, sbne, lst1_d, ldel, lst2_d, ldel2, z_sw, z_rok, zi, eq_self, List.map_cons, List.map_nil, List.append_nil, List.nil_append, List.cons_append, Int32.reduceLT, Int32.reduceLE, Int32.reduceAdd, Int32.reduceSub, Int32.reduceMul, Int32.reduceToInt, Int32.reduceToNatClampNeg, Int.reduceLT, Int.reduceLE, Int.reduceNeg, true_and, and_true, or_self, or_false, false_or, false_and, and_false, true_or, or_true, if_true, if_false, ne_eq, Classical.not_not, not_true_eq_false, not_false_eq_true, true_implies, false_implies, implies_true, Nat.reduceEqDiff, Nat.reduceAdd, Nat.reduceLeDiff, Nat.reduceSub, reduceCtorEq, reduceIte, b213_127, b213_128, skM s, h0, z3]
      refine sp_part S hi hc (i := 3) (m := e) rfl (by decide) ?_
      simp only [lv_args, z_v, z_lg, z_h, z_u, z_u1, z_c, z_ct, z_sk, sbne, lst1_d, ldel, lst2_d, ldel2, z_sw, z_rok, zi, eq_self, List.map_cons, List.map_nil, List.append_nil, List.nil_append, List.cons_append, Int32.reduceLT, Int32.reduceLE, Int32.reduceAdd, Int32.reduceSub, Int32.reduceMul, Int32.reduceToInt, Int32.reduceToNatClampNeg, Int.reduceLT, Int.reduceLE, Int.reduceNeg, true_and, and_true, or_self, or_false, false_or, false_and, and_false, true_or, or_true, if_true, if_false, ne_eq, Classical.not_not, not_true_eq_false, not_false_eq_true, true_implies, false_implies, implies_true, Nat.reduceEqDiff, Nat.reduceAdd, Nat.reduceLeDiff, Nat.reduceSub, reduceCtorEq, reduceIte, b213_128, b213_300, skM s, skM s', h0, e206_59 _ _ s']
      exact pr_ok (rm_form r') hq
    · rw [if_neg cf] at hq
      simp only [lv_args, z_v, z_lg, z_h, z_u, z_u1, z_c, z_ct, z_sk, sbne, lst1_d, ldel, lst2_d, ldel2, z_sw, z_rok, zi, eq_self, List.map_cons, List.map_nil, List.append_nil, List.nil_append, List.cons_append, Int32.reduceLT, Int32.reduceLE, Int32.reduceAdd, Int32.reduceSub, Int32.reduceMul, Int32.reduceToInt, Int32.reduceToNatClampNeg, Int.reduceLT, Int.reduceLE, Int.reduceNeg, true_and, and_true, or_self, or_false, false_or, false_and, and_false, true_or, or_true, if_true, if_false, ne_eq, Classical.not_not, not_true_eq_false, not_false_eq_true, true_implies, false_implies, implies_true, Nat.reduceEqDiff, Nat.reduceAdd, Nat.reduceLeDiff, Nat.reduceSub, reduceCtorEq, reduceIte, b213_123, b213_128, skM s, h0, z2]
      refine sp_part S hi hc (i := 2) (m := b) rfl (by decide) ?_
      simp only [lv_args, z_v, z_lg, z_h, z_u, z_u1, z_c, z_ct, z_sk, sbne, lst1_d, ldel, lst2_d, ldel2, z_sw, z_rok, zi, eq_self, List.map_cons, List.map_nil, List.append_nil, List.nil_append, List.cons_append, Int32.reduceLT, Int32.reduceLE, Int32.reduceAdd, Int32.reduceSub, Int32.reduceMul, Int32.reduceToInt, Int32.reduceToNatClampNeg, Int.reduceLT, Int.reduceLE, Int.reduceNeg, true_and, and_true, or_self, or_false, false_or, false_and, and_false, true_or, or_true, if_true, if_false, ne_eq, Classical.not_not, not_true_eq_false, not_false_eq_true, true_implies, false_implies, implies_true, Nat.reduceEqDiff, Nat.reduceAdd, Nat.reduceLeDiff, Nat.reduceSub, reduceCtorEq, reduceIte, b213_128, b213_300, skM s, skM s', h0, e206_59 _ _ s']
      exact pr_ok (rm_form r') hq
theorem rs_15 {y y' : RSt} (hr : RS1 G qv 15 y y') (r : RM G q qv y h) (hb : Bnd y) (hd : 20 < d) (hq : ∀ h', RM G q qv y' h' → aWP d 257 35 (LR N) [] h' Q) : aWP d 257 35 (LR N) [] h Q := by
  obtain ⟨⟨md, nw, td0, wk⟩, X⟩ := y
  match md, td0, hr with
  | none, (k, n, m) :: td, hr =>
    obtain ⟨hk, a, l, hc, rfl⟩ := hr
    have r' := rm_pop r
    have S := r'.1
    have s := r.1.1
    have s' := S.1
    have h0 : 0 < d - 1 := by omega
    have hb1 : td.length ≤ 44990 := by have hb1 : td.length + 1 ≤ 44000 := hb.1; omega
    have enw : hL h 59 65 = nw := r.2.1.1
    have ef : (8589934592 : Int64) = vof 2 0 := by decide
    have z2 : (2 : Int32) = nI 2 := rfl
    have z3 : (3 : Int32) = nI 3 := rfl
    rcases hk with rfl | rfl
    · refine vl_go r (by omega) (t := 137) rfl ?_
      simp only [lv_args, z_v, z_lg, z_h, z_u, z_u1, z_c, z_ct, z_sk, sbne, lst1_d, ldel, lst2_d, ldel2, z_sw, z_rok, zi, eq_self, List.map_cons, List.map_nil, List.append_nil, List.nil_append, List.cons_append, Int32.reduceLT, Int32.reduceLE, Int32.reduceAdd, Int32.reduceSub, Int32.reduceMul, Int32.reduceToInt, Int32.reduceToNatClampNeg, Int.reduceLT, Int.reduceLE, Int.reduceNeg, true_and, and_true, or_self, or_false, false_or, false_and, and_false, true_or, or_true, if_true, if_false, ne_eq, Classical.not_not, not_true_eq_false, not_false_eq_true, true_implies, false_implies, implies_true, Nat.reduceEqDiff, Nat.reduceAdd, Nat.reduceLeDiff, Nat.reduceSub, reduceCtorEq, reduceIte, b213_137, skM s, h0, enw, cmp_0, ef]
      refine ⟨fun cf => ?_, fun cf => ?_⟩
      · rw [if_pos (iff_of_true cf rfl), if_pos (iff_of_true cf rfl)] at hq
        simp only [lv_args, z_v, z_lg, z_h, z_u, z_u1, z_c, z_ct, z_sk, sbne, lst1_d, ldel, lst2_d, ldel2, z_sw, z_rok, zi, eq_self, List.map_cons, List.map_nil, List.append_nil, List.nil_append, List.cons_append, Int32.reduceLT, Int32.reduceLE, Int32.reduceAdd, Int32.reduceSub, Int32.reduceMul, Int32.reduceToInt, Int32.reduceToNatClampNeg, Int.reduceLT, Int.reduceLE, Int.reduceNeg, true_and, and_true, or_self, or_false, false_or, false_and, and_false, true_or, or_true, if_true, if_false, ne_eq, Classical.not_not, not_true_eq_false, not_false_eq_true, true_implies, false_implies, implies_true, Nat.reduceEqDiff, Nat.reduceAdd, Nat.reduceLeDiff, Nat.reduceSub, reduceCtorEq, reduceIte, b213_300]
        exact pr_ok r' hq
      · have ne : ¬ (nw = vof 2 0 ↔ 2 = 2) := fun e => cf (e.mpr rfl)
        rw [if_neg ne, if_neg ne] at hq
        rw [hc.1]
        simp only [lv_args, z_v, z_lg, z_h, z_u, z_u1, z_c, z_ct, z_sk, sbne, lst1_d, ldel, lst2_d, ldel2, z_sw, z_rok, zi, eq_self, List.map_cons, List.map_nil, List.append_nil, List.nil_append, List.cons_append, Int32.reduceLT, Int32.reduceLE, Int32.reduceAdd, Int32.reduceSub, Int32.reduceMul, Int32.reduceToInt, Int32.reduceToNatClampNeg, Int.reduceLT, Int.reduceLE, Int.reduceNeg, true_and, and_true, or_self, or_false, false_or, false_and, and_false, true_or, or_true, if_true, if_false, ne_eq, Classical.not_not, not_true_eq_false, not_false_eq_true, true_implies, false_implies, implies_true, Nat.reduceEqDiff, Nat.reduceAdd, Nat.reduceLeDiff, Nat.reduceSub, reduceCtorEq, reduceIte, b213_148, skM s, h0, z2]
        refine sp_choices (k' := 2) (by decide) S (by omega) r'.2.2.1 r'.2.1 hb1 hc fun h' S' k2 k3 k4 k5 k6 k7 t' c' => ?_
        simp only [lv_args, z_v, z_lg, z_h, z_u, z_u1, z_c, z_ct, z_sk, sbne, lst1_d, ldel, lst2_d, ldel2, z_sw, z_rok, zi, eq_self, List.map_cons, List.map_nil, List.append_nil, List.nil_append, List.cons_append, Int32.reduceLT, Int32.reduceLE, Int32.reduceAdd, Int32.reduceSub, Int32.reduceMul, Int32.reduceToInt, Int32.reduceToNatClampNeg, Int.reduceLT, Int.reduceLE, Int.reduceNeg, true_and, and_true, or_self, or_false, false_or, false_and, and_false, true_or, or_true, if_true, if_false, ne_eq, Classical.not_not, not_true_eq_false, not_false_eq_true, true_implies, false_implies, implies_true, Nat.reduceEqDiff, Nat.reduceAdd, Nat.reduceLeDiff, Nat.reduceSub, reduceCtorEq, reduceIte, b213_148, b213_300, skM s, Nat.reduceLT]
        exact pr_ok (rm_forms r' S' k2 k3 k4 k5 k6 k7 t' c') hq
    · have d32 : ¬ (3 : Nat) = 2 := by decide
      refine vl_go r (by omega) (t := 157) rfl ?_
      simp only [lv_args, z_v, z_lg, z_h, z_u, z_u1, z_c, z_ct, z_sk, sbne, lst1_d, ldel, lst2_d, ldel2, z_sw, z_rok, zi, eq_self, List.map_cons, List.map_nil, List.append_nil, List.nil_append, List.cons_append, Int32.reduceLT, Int32.reduceLE, Int32.reduceAdd, Int32.reduceSub, Int32.reduceMul, Int32.reduceToInt, Int32.reduceToNatClampNeg, Int.reduceLT, Int.reduceLE, Int.reduceNeg, true_and, and_true, or_self, or_false, false_or, false_and, and_false, true_or, or_true, if_true, if_false, ne_eq, Classical.not_not, not_true_eq_false, not_false_eq_true, true_implies, false_implies, implies_true, Nat.reduceEqDiff, Nat.reduceAdd, Nat.reduceLeDiff, Nat.reduceSub, reduceCtorEq, reduceIte, b213_157, skM s, h0, enw, cmp_0, ef]
      refine ⟨fun cf => ?_, fun cf => ?_⟩
      · rw [if_pos (iff_of_false cf d32), if_pos (iff_of_false cf d32)] at hq
        simp only [lv_args, z_v, z_lg, z_h, z_u, z_u1, z_c, z_ct, z_sk, sbne, lst1_d, ldel, lst2_d, ldel2, z_sw, z_rok, zi, eq_self, List.map_cons, List.map_nil, List.append_nil, List.nil_append, List.cons_append, Int32.reduceLT, Int32.reduceLE, Int32.reduceAdd, Int32.reduceSub, Int32.reduceMul, Int32.reduceToInt, Int32.reduceToNatClampNeg, Int.reduceLT, Int.reduceLE, Int.reduceNeg, true_and, and_true, or_self, or_false, false_or, false_and, and_false, true_or, or_true, if_true, if_false, ne_eq, Classical.not_not, not_true_eq_false, not_false_eq_true, true_implies, false_implies, implies_true, Nat.reduceEqDiff, Nat.reduceAdd, Nat.reduceLeDiff, Nat.reduceSub, reduceCtorEq, reduceIte, b213_300]
        exact pr_ok r' hq
      · have ne : ¬ (nw = vof 2 0 ↔ 3 = 2) := fun e => d32 (e.mp cf)
        rw [if_neg ne, if_neg ne] at hq
        rw [hc.1]
        simp only [lv_args, z_v, z_lg, z_h, z_u, z_u1, z_c, z_ct, z_sk, sbne, lst1_d, ldel, lst2_d, ldel2, z_sw, z_rok, zi, eq_self, List.map_cons, List.map_nil, List.append_nil, List.nil_append, List.cons_append, Int32.reduceLT, Int32.reduceLE, Int32.reduceAdd, Int32.reduceSub, Int32.reduceMul, Int32.reduceToInt, Int32.reduceToNatClampNeg, Int.reduceLT, Int.reduceLE, Int.reduceNeg, true_and, and_true, or_self, or_false, false_or, false_and, and_false, true_or, or_true, if_true, if_false, ne_eq, Classical.not_not, not_true_eq_false, not_false_eq_true, true_implies, false_implies, implies_true, Nat.reduceEqDiff, Nat.reduceAdd, Nat.reduceLeDiff, Nat.reduceSub, reduceCtorEq, reduceIte, b213_168, skM s, h0, z3]
        refine sp_choices (k' := 3) (by decide) S (by omega) r'.2.2.1 r'.2.1 hb1 hc fun h' S' k2 k3 k4 k5 k6 k7 t' c' => ?_
        simp only [lv_args, z_v, z_lg, z_h, z_u, z_u1, z_c, z_ct, z_sk, sbne, lst1_d, ldel, lst2_d, ldel2, z_sw, z_rok, zi, eq_self, List.map_cons, List.map_nil, List.append_nil, List.nil_append, List.cons_append, Int32.reduceLT, Int32.reduceLE, Int32.reduceAdd, Int32.reduceSub, Int32.reduceMul, Int32.reduceToInt, Int32.reduceToNatClampNeg, Int.reduceLT, Int.reduceLE, Int.reduceNeg, true_and, and_true, or_self, or_false, false_or, false_and, and_false, true_or, or_true, if_true, if_false, ne_eq, Classical.not_not, not_true_eq_false, not_false_eq_true, true_implies, false_implies, implies_true, Nat.reduceEqDiff, Nat.reduceAdd, Nat.reduceLeDiff, Nat.reduceSub, reduceCtorEq, reduceIte, b213_168, b213_300, skM s, Nat.reduceLT]
        exact pr_ok (rm_forms r' S' k2 k3 k4 k5 k6 k7 t' c') hq
end REI
