/-! the row; lets' pairs and calls' parts; giving back -/
section REJ
variable {h h' : Hp} {Q : Option Value → Hp → Prop} {d : Nat} {G : PG} {q : Nat} {qv : Nat → Int64} {r n : Nat} {td : List TD} {z : RSt} {N : Int32} {md : Option Nat} {nw v : Int64} {wk : List Int64} {X : (List Nat × Nat × Option Nat) × (List Int64 × List (Nat × List Nat) × List (Int64 × Int64) × Nat × List Int64) × (List Int32 × List Int32 × Nat × Nat × Nat × Int64 × Nat)}
theorem rs_20 {y y' : RSt} (hr : RS1 G qv 20 y y') (r : RM G q qv y h) (hb : Bnd y) (hd : 20 < d) (hq : ∀ h', RM G q qv y' h' → aWP d 257 35 (LR N) [] h' Q) : aWP d 257 35 (LR N) [] h Q := by
  obtain ⟨⟨md, nw, td0, wk⟩, X⟩ := y
  match md, td0, hr with
  | none, (7, n, m) :: td, hr =>
    obtain ⟨p, p', rfl, hp, e25, hp', rfl⟩ := hr
    have r' := rm_pop r
    have S := r'.1
    have s := r.1.1
    have s' := S.1
    have h0 : 0 < d - 1 := by omega
    have hb1 : td.length ≤ 44990 := by have hb1 : td.length + 1 ≤ 44000 := hb.1; omega
    have hb2 : wk.length ≤ 305000 := by have hb2 : wk.length ≤ 304000 := hb.2.1; omega
    have enw : hL h 59 65 = nw := r.2.1.1
    have pn := r.1.2.2.2.1.2.2.1
    have ne := nI_m1' (a := p') (by omega)
    refine vl_go r (by omega) (t := 203) rfl ?_
    simp only [lv_args, z_v, z_lg, z_h, z_u, z_u1, z_c, z_ct, z_sk, sbne, lst1_d, ldel, lst2_d, ldel2, z_sw, z_rok, zi, eq_self, List.map_cons, List.map_nil, List.append_nil, List.nil_append, List.cons_append, Int32.reduceLT, Int32.reduceLE, Int32.reduceAdd, Int32.reduceSub, Int32.reduceMul, Int32.reduceToInt, Int32.reduceToNatClampNeg, Int.reduceLT, Int.reduceLE, Int.reduceNeg, true_and, and_true, or_self, or_false, false_or, false_and, and_false, true_or, or_true, if_true, if_false, ne_eq, Classical.not_not, not_true_eq_false, not_false_eq_true, true_implies, false_implies, implies_true, Nat.reduceEqDiff, Nat.reduceAdd, Nat.reduceLeDiff, Nat.reduceSub, reduceCtorEq, reduceIte, b213_203, skM s, h0, enw]
    refine sp_pushM (v := nw) S (by omega) r'.2.2.2.1 hb2 fun h1 S1 kk w1 => ?_
    have s1 := S1.1
    have P := S1.2.2.2.1
    have r17 := S1.2.2.2.2.1
    obtain ⟨⟨k0, k1, k2, k4, k5, _⟩, w7, w8, w10, w11, _⟩ := prf s1 P.1
    obtain ⟨p1, p2, p3⟩ := pm_n P (j := 5) (by decide) (by decide) hp
    have p2 : hA h1 (q + 5) p = nI p' := p2.trans e25
    have r1 : RM G q qv ((none, nw, td, wk ++ [nw]), X) h1 := by
      obtain ⟨a1, a2, a3, a4, a5, a6, a7, a8, a9, a10, a11⟩ := r'
      exact ⟨S1, kk.1 _ _ a2, kk.2.1 _ a3, w1, kk.2.2.1 _ _ _ _ _ a5, kk.2.2.2.1 _ _ _ a6, kk.2.2.2.2.1 _ _ a7, kk.2.2.2.2.2.1 _ _ _ _ _ a8, kk.2.2.2.2.2.2.1.trans a9, kk.2.2.2.2.2.2.2.1.trans a10, kk.2.2.2.2.2.2.2.2.trans a11.1, a11.2⟩
    simp only [lv_args, z_v, z_lg, z_h, z_u, z_u1, z_c, z_ct, z_sk, sbne, lst1_d, ldel, lst2_d, ldel2, z_sw, z_rok, zi, eq_self, List.map_cons, List.map_nil, List.append_nil, List.nil_append, List.cons_append, Int32.reduceLT, Int32.reduceLE, Int32.reduceAdd, Int32.reduceSub, Int32.reduceMul, Int32.reduceToInt, Int32.reduceToNatClampNeg, Int.reduceLT, Int.reduceLE, Int.reduceNeg, true_and, and_true, or_self, or_false, false_or, false_and, and_false, true_or, or_true, if_true, if_false, ne_eq, Classical.not_not, not_true_eq_false, not_false_eq_true, true_implies, false_implies, implies_true, Nat.reduceEqDiff, Nat.reduceAdd, Nat.reduceLeDiff, Nat.reduceSub, reduceCtorEq, reduceIte, b213_203, skM s, skM s1, Nat.reduceLT, r17, k0, w11, k5]
    simp (disch := omega) only [nI_ti, nI_cl, le0N, ltNN, p1, p2, true_and]
    refine ⟨p3, ?_⟩
    try simp only [lv_args, z_v, z_lg, z_h, z_u, z_u1, z_c, z_ct, z_sk, sbne, lst1_d, ldel, lst2_d, ldel2, z_sw, z_rok, zi, eq_self, List.map_cons, List.map_nil, List.append_nil, List.nil_append, List.cons_append, Int32.reduceLT, Int32.reduceLE, Int32.reduceAdd, Int32.reduceSub, Int32.reduceMul, Int32.reduceToInt, Int32.reduceToNatClampNeg, Int.reduceLT, Int.reduceLE, Int.reduceNeg, true_and, and_true, or_self, or_false, false_or, false_and, and_false, true_or, or_true, if_true, if_false, ne_eq, Classical.not_not, not_true_eq_false, not_false_eq_true, true_implies, false_implies, implies_true, Nat.reduceEqDiff, Nat.reduceAdd, Nat.reduceLeDiff, Nat.reduceSub, reduceCtorEq, reduceIte, b213_203]
    refine ⟨fun _ => ?_, fun c => absurd c ne⟩
    simp only [lv_args, z_v, z_lg, z_h, z_u, z_u1, z_c, z_ct, z_sk, sbne, lst1_d, ldel, lst2_d, ldel2, z_sw, z_rok, zi, eq_self, List.map_cons, List.map_nil, List.append_nil, List.nil_append, List.cons_append, Int32.reduceLT, Int32.reduceLE, Int32.reduceAdd, Int32.reduceSub, Int32.reduceMul, Int32.reduceToInt, Int32.reduceToNatClampNeg, Int.reduceLT, Int.reduceLE, Int.reduceNeg, true_and, and_true, or_self, or_false, false_or, false_and, and_false, true_or, or_true, if_true, if_false, ne_eq, Classical.not_not, not_true_eq_false, not_false_eq_true, true_implies, false_implies, implies_true, Nat.reduceEqDiff, Nat.reduceAdd, Nat.reduceLeDiff, Nat.reduceSub, reduceCtorEq, reduceIte, b213_232, skM s1, h0, r17, k0, w11, k5]
    simp (disch := omega) only [nI_ti, nI_cl, le0N, ltNN, p1, p2, true_and]
    refine ⟨p3, ?_⟩
    try simp only [lv_args, z_v, z_lg, z_h, z_u, z_u1, z_c, z_ct, z_sk, sbne, lst1_d, ldel, lst2_d, ldel2, z_sw, z_rok, zi, eq_self, List.map_cons, List.map_nil, List.append_nil, List.nil_append, List.cons_append, Int32.reduceLT, Int32.reduceLE, Int32.reduceAdd, Int32.reduceSub, Int32.reduceMul, Int32.reduceToInt, Int32.reduceToNatClampNeg, Int.reduceLT, Int.reduceLE, Int.reduceNeg, true_and, and_true, or_self, or_false, false_or, false_and, and_false, true_or, or_true, if_true, if_false, ne_eq, Classical.not_not, not_true_eq_false, not_false_eq_true, true_implies, false_implies, implies_true, Nat.reduceEqDiff, Nat.reduceAdd, Nat.reduceLeDiff, Nat.reduceSub, reduceCtorEq, reduceIte, b213_232, skM s1, h0]
    refine sp_todo (k := 7) S1 (by omega) r1.2.2.1 hb1 (by decide) fun h2 S2 kk2 t2 => ?_
    have r2 := rm_todo r1 S2 kk2 t2
    have s2 := S2.1
    have P2 := S2.2.2.2.1
    have r172 := S2.2.2.2.2.1
    obtain ⟨⟨j0, j1, j2, j4, j5, _⟩, x7, x8, x10, x11, _⟩ := prf s2 P2.1
    obtain ⟨o1, o2, o3⟩ := pm_n P2 (j := 5) (by decide) (by decide) hp
    have o2 : hA h2 (q + 5) p = nI p' := o2.trans e25
    simp only [lv_args, z_v, z_lg, z_h, z_u, z_u1, z_c, z_ct, z_sk, sbne, lst1_d, ldel, lst2_d, ldel2, z_sw, z_rok, zi, eq_self, List.map_cons, List.map_nil, List.append_nil, List.nil_append, List.cons_append, Int32.reduceLT, Int32.reduceLE, Int32.reduceAdd, Int32.reduceSub, Int32.reduceMul, Int32.reduceToInt, Int32.reduceToNatClampNeg, Int.reduceLT, Int.reduceLE, Int.reduceNeg, true_and, and_true, or_self, or_false, false_or, false_and, and_false, true_or, or_true, if_true, if_false, ne_eq, Classical.not_not, not_true_eq_false, not_false_eq_true, true_implies, false_implies, implies_true, Nat.reduceEqDiff, Nat.reduceAdd, Nat.reduceLeDiff, Nat.reduceSub, reduceCtorEq, reduceIte, b213_232, skM s1, skM s2, Nat.reduceLT, h0, r172, j0, x11, j5]
    simp (disch := omega) only [nI_ti, nI_cl, le0N, ltNN, o1, o2, true_and]
    refine ⟨o3, ?_⟩
    try simp only [lv_args, z_v, z_lg, z_h, z_u, z_u1, z_c, z_ct, z_sk, sbne, lst1_d, ldel, lst2_d, ldel2, z_sw, z_rok, zi, eq_self, List.map_cons, List.map_nil, List.append_nil, List.nil_append, List.cons_append, Int32.reduceLT, Int32.reduceLE, Int32.reduceAdd, Int32.reduceSub, Int32.reduceMul, Int32.reduceToInt, Int32.reduceToNatClampNeg, Int.reduceLT, Int.reduceLE, Int.reduceNeg, true_and, and_true, or_self, or_false, false_or, false_and, and_false, true_or, or_true, if_true, if_false, ne_eq, Classical.not_not, not_true_eq_false, not_false_eq_true, true_implies, false_implies, implies_true, Nat.reduceEqDiff, Nat.reduceAdd, Nat.reduceLeDiff, Nat.reduceSub, reduceCtorEq, reduceIte, b213_232, b213_300, skM s2, h0, e206_59 _ _ s2]
    exact pr_ok (rm_form r2) hq
theorem rs_17 {y y' : RSt} (hr : RS1 G qv 17 y y') (r : RM G q qv y h) (hb : Bnd y) (hd : 20 < d) (hq : ∀ h', RM G q qv y' h' → aWP d 257 35 (LR N) [] h' Q) : aWP d 257 35 (LR N) [] h Q := by
  obtain ⟨⟨md, nw, td0, wk⟩, X⟩ := y
  match md, td0, hr with
  | none, (5, n, m) :: td, hr =>
    obtain ⟨p, p', a, v, rfl, hp, e25, hp', hc, rfl⟩ := hr
    have r' := rm_pop r
    have S := r'.1
    have s := r.1.1
    have s' := S.1
    have h0 : 0 < d - 1 := by omega
    have h01 : 0 < d - 1 - 1 := by omega
    have hb1 : td.length ≤ 44990 := by have hb1 : td.length + 1 ≤ 44000 := hb.1; omega
    have hb2 : wk.length ≤ 305000 := by have hb2 : wk.length ≤ 304000 := hb.2.1; omega
    have enw : hL h 59 65 = nw := r.2.1.1
    have pn := r.1.2.2.2.1.2.2.1
    have ne := nI_m1' (a := p') (by omega)
    have z1 : (1 : Int32) = nI 1 := rfl
    refine vl_go r (by omega) (t := 185) rfl ?_
    simp only [lv_args, z_v, z_lg, z_h, z_u, z_u1, z_c, z_ct, z_sk, sbne, lst1_d, ldel, lst2_d, ldel2, z_sw, z_rok, zi, eq_self, List.map_cons, List.map_nil, List.append_nil, List.nil_append, List.cons_append, Int32.reduceLT, Int32.reduceLE, Int32.reduceAdd, Int32.reduceSub, Int32.reduceMul, Int32.reduceToInt, Int32.reduceToNatClampNeg, Int.reduceLT, Int.reduceLE, Int.reduceNeg, true_and, and_true, or_self, or_false, false_or, false_and, and_false, true_or, or_true, if_true, if_false, ne_eq, Classical.not_not, not_true_eq_false, not_false_eq_true, true_implies, false_implies, implies_true, Nat.reduceEqDiff, Nat.reduceAdd, Nat.reduceLeDiff, Nat.reduceSub, reduceCtorEq, reduceIte, b213_185, skM s, h0]
    unfold aEv
    simp only [lv_args, z_v, z_lg, z_h, z_u, z_u1, z_c, z_ct, z_sk, sbne, lst1_d, ldel, lst2_d, ldel2, z_sw, z_rok, zi, eq_self, List.map_cons, List.map_nil, List.append_nil, List.nil_append, List.cons_append, Int32.reduceLT, Int32.reduceLE, Int32.reduceAdd, Int32.reduceSub, Int32.reduceMul, Int32.reduceToInt, Int32.reduceToNatClampNeg, Int.reduceLT, Int.reduceLE, Int.reduceNeg, true_and, and_true, or_self, or_false, false_or, false_and, and_false, true_or, or_true, if_true, if_false, ne_eq, Classical.not_not, not_true_eq_false, not_false_eq_true, true_implies, false_implies, implies_true, Nat.reduceEqDiff, Nat.reduceAdd, Nat.reduceLeDiff, Nat.reduceSub, reduceCtorEq, reduceIte, b230_0, skM s, h01, enw]
    refine sp_pushM (v := nw) S (by omega) r'.2.2.2.1 hb2 fun h1 S1 kk w1 => ?_
    have s1 := S1.1
    have P := S1.2.2.2.1
    have r17 := S1.2.2.2.2.1
    obtain ⟨⟨k0, k1, k2, k4, k5, _⟩, w7, w8, w10, w11, _⟩ := prf s1 P.1
    obtain ⟨p1, p2, p3⟩ := pm_n P (j := 5) (by decide) (by decide) hp
    have p2 : hA h1 (q + 5) p = nI p' := p2.trans e25
    have r1 : RM G q qv ((none, nw, td, wk ++ [nw]), X) h1 := by
      obtain ⟨a1, a2, a3, a4, a5, a6, a7, a8, a9, a10, a11⟩ := r'
      exact ⟨S1, kk.1 _ _ a2, kk.2.1 _ a3, w1, kk.2.2.1 _ _ _ _ _ a5, kk.2.2.2.1 _ _ _ a6, kk.2.2.2.2.1 _ _ a7, kk.2.2.2.2.2.1 _ _ _ _ _ a8, kk.2.2.2.2.2.2.1.trans a9, kk.2.2.2.2.2.2.2.1.trans a10, kk.2.2.2.2.2.2.2.2.trans a11.1, a11.2⟩
    simp only [lv_args, z_v, z_lg, z_h, z_u, z_u1, z_c, z_ct, z_sk, sbne, lst1_d, ldel, lst2_d, ldel2, z_sw, z_rok, zi, eq_self, List.map_cons, List.map_nil, List.append_nil, List.nil_append, List.cons_append, Int32.reduceLT, Int32.reduceLE, Int32.reduceAdd, Int32.reduceSub, Int32.reduceMul, Int32.reduceToInt, Int32.reduceToNatClampNeg, Int.reduceLT, Int.reduceLE, Int.reduceNeg, true_and, and_true, or_self, or_false, false_or, false_and, and_false, true_or, or_true, if_true, if_false, ne_eq, Classical.not_not, not_true_eq_false, not_false_eq_true, true_implies, false_implies, implies_true, Nat.reduceEqDiff, Nat.reduceAdd, Nat.reduceLeDiff, Nat.reduceSub, reduceCtorEq, reduceIte, b230_0, skM s, skM s1, Nat.reduceLT, r17, k0, w11, k5]
    simp (disch := omega) only [nI_ti, nI_cl, le0N, ltNN, p1, p2, true_and]
    refine ⟨p3, ?_⟩
    try simp only [lv_args, z_v, z_lg, z_h, z_u, z_u1, z_c, z_ct, z_sk, sbne, lst1_d, ldel, lst2_d, ldel2, z_sw, z_rok, zi, eq_self, List.map_cons, List.map_nil, List.append_nil, List.nil_append, List.cons_append, Int32.reduceLT, Int32.reduceLE, Int32.reduceAdd, Int32.reduceSub, Int32.reduceMul, Int32.reduceToInt, Int32.reduceToNatClampNeg, Int.reduceLT, Int.reduceLE, Int.reduceNeg, true_and, and_true, or_self, or_false, false_or, false_and, and_false, true_or, or_true, if_true, if_false, ne_eq, Classical.not_not, not_true_eq_false, not_false_eq_true, true_implies, false_implies, implies_true, Nat.reduceEqDiff, Nat.reduceAdd, Nat.reduceLeDiff, Nat.reduceSub, reduceCtorEq, reduceIte, b230_0, ne]
    try simp only [lv_args, z_v, z_lg, z_h, z_u, z_u1, z_c, z_ct, z_sk, sbne, lst1_d, ldel, lst2_d, ldel2, z_sw, z_rok, zi, eq_self, List.map_cons, List.map_nil, List.append_nil, List.nil_append, List.cons_append, Int32.reduceLT, Int32.reduceLE, Int32.reduceAdd, Int32.reduceSub, Int32.reduceMul, Int32.reduceToInt, Int32.reduceToNatClampNeg, Int.reduceLT, Int.reduceLE, Int.reduceNeg, true_and, and_true, or_self, or_false, false_or, false_and, and_false, true_or, or_true, if_true, if_false, ne_eq, Classical.not_not, not_true_eq_false, not_false_eq_true, true_implies, false_implies, implies_true, Nat.reduceEqDiff, Nat.reduceAdd, Nat.reduceLeDiff, Nat.reduceSub, reduceCtorEq, reduceIte, b230_23, skM s1, h01]
    refine sp_todo (k := 5) S1 (by omega) r1.2.2.1 hb1 (by decide) fun h2 S2 kk2 t2 => ?_
    have r2 := rm_todo r1 S2 kk2 t2
    have s2 := S2.1
    simp only [lv_args, z_v, z_lg, z_h, z_u, z_u1, z_c, z_ct, z_sk, sbne, lst1_d, ldel, lst2_d, ldel2, z_sw, z_rok, zi, eq_self, List.map_cons, List.map_nil, List.append_nil, List.nil_append, List.cons_append, Int32.reduceLT, Int32.reduceLE, Int32.reduceAdd, Int32.reduceSub, Int32.reduceMul, Int32.reduceToInt, Int32.reduceToNatClampNeg, Int.reduceLT, Int.reduceLE, Int.reduceNeg, true_and, and_true, or_self, or_false, false_or, false_and, and_false, true_or, or_true, if_true, if_false, ne_eq, Classical.not_not, not_true_eq_false, not_false_eq_true, true_implies, false_implies, implies_true, Nat.reduceEqDiff, Nat.reduceAdd, Nat.reduceLeDiff, Nat.reduceSub, reduceCtorEq, reduceIte, b230_23, skM s1, skM s2, Nat.reduceLT, h01, z1]
    refine sp_part S2 hp' hc (i := 1) (m := v) rfl (by decide) ?_
    simp only [lv_args, z_v, z_lg, z_h, z_u, z_u1, z_c, z_ct, z_sk, sbne, lst1_d, ldel, lst2_d, ldel2, z_sw, z_rok, zi, eq_self, List.map_cons, List.map_nil, List.append_nil, List.nil_append, List.cons_append, Int32.reduceLT, Int32.reduceLE, Int32.reduceAdd, Int32.reduceSub, Int32.reduceMul, Int32.reduceToInt, Int32.reduceToNatClampNeg, Int.reduceLT, Int.reduceLE, Int.reduceNeg, true_and, and_true, or_self, or_false, false_or, false_and, and_false, true_or, or_true, if_true, if_false, ne_eq, Classical.not_not, not_true_eq_false, not_false_eq_true, true_implies, false_implies, implies_true, Nat.reduceEqDiff, Nat.reduceAdd, Nat.reduceLeDiff, Nat.reduceSub, reduceCtorEq, reduceIte, b230_23, skM s2, h01, e206_59 _ _ s2]
    simp only [lv_args, z_v, z_lg, z_h, z_u, z_u1, z_c, z_ct, z_sk, sbne, lst1_d, ldel, lst2_d, ldel2, z_sw, z_rok, zi, eq_self, List.map_cons, List.map_nil, List.append_nil, List.nil_append, List.cons_append, Int32.reduceLT, Int32.reduceLE, Int32.reduceAdd, Int32.reduceSub, Int32.reduceMul, Int32.reduceToInt, Int32.reduceToNatClampNeg, Int.reduceLT, Int.reduceLE, Int.reduceNeg, true_and, and_true, or_self, or_false, false_or, false_and, and_false, true_or, or_true, if_true, if_false, ne_eq, Classical.not_not, not_true_eq_false, not_false_eq_true, true_implies, false_implies, implies_true, Nat.reduceEqDiff, Nat.reduceAdd, Nat.reduceLeDiff, Nat.reduceSub, reduceCtorEq, reduceIte, b213_185, b213_300, skM s, Nat.reduceLT]
    exact pr_ok (rm_form r2) hq
theorem rs_12 {y y' : RSt} (hr : RS1 G qv 12 y y') (r : RM G q qv y h) (hb : Bnd y) (hd : 20 < d) (hq : ∀ h', RM G q qv y' h' → aWP d 257 35 (LR N) [] h' Q) : aWP d 257 35 (LR N) [] h Q := by
  obtain ⟨⟨md, nw, td0, wk⟩, e, S0, ⟨inp, out, th, op, st, lt, bu⟩⟩ := y
  match md, td0, hr with
  | none, (9, n, m) :: td, hr =>
    obtain ⟨a, rfl, ha, hz⟩ := hr
    have r' := rm_pop r
    have s := r.1.1
    have h0 : 0 < d - 1 := by omega
    have h01 : 0 < d - 1 - 1 := by omega
    have hb1 : td.length ≤ 44990 := by have hb1 : td.length + 1 ≤ 44000 := hb.1; omega
    have enw : hL h 59 65 = nw := r.2.1.1
    have pn := r.1.2.2.2.1.2.2.1
    have ne := nI_m1' (a := a) (by omega)
    -- behind the count
    have tail : ∀ {h1 : Hp} {P1 : List Int32 × List Int32 × Nat × Nat × Nat × Int64 × Nat} {m : Int32}, RM G q qv ((none, nw, td, wk), e, S0, P1) h1 → (∀ h', RM G q qv ((some a, nw, (9, G.1 25 a, 1) :: td, wk), e, S0, P1) h' → aWP d 257 35 (LR N) [] h' Q) → aWP (d - 1 - 1) 255 23 [(0, .ref 59), (1, .int (nI a)), (2, .int m)] [] h1 (aCt (d - 1) 213 98 [(2, .int m), (1, .int (nI a)), (0, .ref 59)] [] (pI h 59 50 (nI td.length)) (PR d N Q)) := fun {h1 P1 m} r1 hq1 => by
      have S1 := r1.1
      have s1 := S1.1
      have P := S1.2.2.2.1
      have r17 := S1.2.2.2.2.1
      obtain ⟨⟨k0, k1, k2, k4, k5, _⟩, w7, w8, w10, w11, _⟩ := prf s1 P.1
      obtain ⟨p1, p2, p3⟩ := pm_n P (j := 5) (by decide) (by decide) ha
      have p2 : hA h1 (q + 5) a = G.1 25 a := p2
      simp only [lv_args, z_v, z_lg, z_h, z_u, z_u1, z_c, z_ct, z_sk, sbne, lst1_d, ldel, lst2_d, ldel2, z_sw, z_rok, zi, eq_self, List.map_cons, List.map_nil, List.append_nil, List.nil_append, List.cons_append, Int32.reduceLT, Int32.reduceLE, Int32.reduceAdd, Int32.reduceSub, Int32.reduceMul, Int32.reduceToInt, Int32.reduceToNatClampNeg, Int.reduceLT, Int.reduceLE, Int.reduceNeg, true_and, and_true, or_self, or_false, false_or, false_and, and_false, true_or, or_true, if_true, if_false, ne_eq, Classical.not_not, not_true_eq_false, not_false_eq_true, true_implies, false_implies, implies_true, Nat.reduceEqDiff, Nat.reduceAdd, Nat.reduceLeDiff, Nat.reduceSub, reduceCtorEq, reduceIte, b255_23, ne]
      simp only [lv_args, z_v, z_lg, z_h, z_u, z_u1, z_c, z_ct, z_sk, sbne, lst1_d, ldel, lst2_d, ldel2, z_sw, z_rok, zi, eq_self, List.map_cons, List.map_nil, List.append_nil, List.nil_append, List.cons_append, Int32.reduceLT, Int32.reduceLE, Int32.reduceAdd, Int32.reduceSub, Int32.reduceMul, Int32.reduceToInt, Int32.reduceToNatClampNeg, Int.reduceLT, Int.reduceLE, Int.reduceNeg, true_and, and_true, or_self, or_false, false_or, false_and, and_false, true_or, or_true, if_true, if_false, ne_eq, Classical.not_not, not_true_eq_false, not_false_eq_true, true_implies, false_implies, implies_true, Nat.reduceEqDiff, Nat.reduceAdd, Nat.reduceLeDiff, Nat.reduceSub, reduceCtorEq, reduceIte, b255_34, skM s1, h01, r17, k0, w11, k5]
      simp (disch := omega) only [nI_ti, nI_cl, le0N, ltNN, p1, p2, true_and]
      refine ⟨p3, ?_⟩
      try simp only [lv_args, z_v, z_lg, z_h, z_u, z_u1, z_c, z_ct, z_sk, sbne, lst1_d, ldel, lst2_d, ldel2, z_sw, z_rok, zi, eq_self, List.map_cons, List.map_nil, List.append_nil, List.nil_append, List.cons_append, Int32.reduceLT, Int32.reduceLE, Int32.reduceAdd, Int32.reduceSub, Int32.reduceMul, Int32.reduceToInt, Int32.reduceToNatClampNeg, Int.reduceLT, Int.reduceLE, Int.reduceNeg, true_and, and_true, or_self, or_false, false_or, false_and, and_false, true_or, or_true, if_true, if_false, ne_eq, Classical.not_not, not_true_eq_false, not_false_eq_true, true_implies, false_implies, implies_true, Nat.reduceEqDiff, Nat.reduceAdd, Nat.reduceLeDiff, Nat.reduceSub, reduceCtorEq, reduceIte, b255_34, skM s1, h01]
      refine sp_todo (k := 9) S1 (by omega) r1.2.2.1 hb1 (by decide) fun h2 S2 kk2 t2 => ?_
      have r2 := rm_todo r1 S2 kk2 t2
      have s2 := S2.1
      simp only [lv_args, z_v, z_lg, z_h, z_u, z_u1, z_c, z_ct, z_sk, sbne, lst1_d, ldel, lst2_d, ldel2, z_sw, z_rok, zi, eq_self, List.map_cons, List.map_nil, List.append_nil, List.nil_append, List.cons_append, Int32.reduceLT, Int32.reduceLE, Int32.reduceAdd, Int32.reduceSub, Int32.reduceMul, Int32.reduceToInt, Int32.reduceToNatClampNeg, Int.reduceLT, Int.reduceLE, Int.reduceNeg, true_and, and_true, or_self, or_false, false_or, false_and, and_false, true_or, or_true, if_true, if_false, ne_eq, Classical.not_not, not_true_eq_false, not_false_eq_true, true_implies, false_implies, implies_true, Nat.reduceEqDiff, Nat.reduceAdd, Nat.reduceLeDiff, Nat.reduceSub, reduceCtorEq, reduceIte, b255_34, skM s1, skM s2, Nat.reduceLT, h01, e206_59 _ _ s2]
      simp only [lv_args, z_v, z_lg, z_h, z_u, z_u1, z_c, z_ct, z_sk, sbne, lst1_d, ldel, lst2_d, ldel2, z_sw, z_rok, zi, eq_self, List.map_cons, List.map_nil, List.append_nil, List.nil_append, List.cons_append, Int32.reduceLT, Int32.reduceLE, Int32.reduceAdd, Int32.reduceSub, Int32.reduceMul, Int32.reduceToInt, Int32.reduceToNatClampNeg, Int.reduceLT, Int.reduceLE, Int.reduceNeg, true_and, and_true, or_self, or_false, false_or, false_and, and_false, true_or, or_true, if_true, if_false, ne_eq, Classical.not_not, not_true_eq_false, not_false_eq_true, true_implies, false_implies, implies_true, Nat.reduceEqDiff, Nat.reduceAdd, Nat.reduceLeDiff, Nat.reduceSub, reduceCtorEq, reduceIte, b213_92, b213_300, skM s, Nat.reduceLT]
      exact pr_ok (rm_form r2) hq1
    rcases hz with ⟨rfl, rfl⟩ | ⟨rfl, rfl⟩
    · have n01 : ¬ (0 : Int32) = 1 := by decide
      refine vl_go r (by omega) (t := 92) rfl ?_
      simp only [lv_args, z_v, z_lg, z_h, z_u, z_u1, z_c, z_ct, z_sk, sbne, lst1_d, ldel, lst2_d, ldel2, z_sw, z_rok, zi, eq_self, List.map_cons, List.map_nil, List.append_nil, List.nil_append, List.cons_append, Int32.reduceLT, Int32.reduceLE, Int32.reduceAdd, Int32.reduceSub, Int32.reduceMul, Int32.reduceToInt, Int32.reduceToNatClampNeg, Int.reduceLT, Int.reduceLE, Int.reduceNeg, true_and, and_true, or_self, or_false, false_or, false_and, and_false, true_or, or_true, if_true, if_false, ne_eq, Classical.not_not, not_true_eq_false, not_false_eq_true, true_implies, false_implies, implies_true, Nat.reduceEqDiff, Nat.reduceAdd, Nat.reduceLeDiff, Nat.reduceSub, reduceCtorEq, reduceIte, b213_92, skM s, h0]
      unfold aEv
      simp only [lv_args, z_v, z_lg, z_h, z_u, z_u1, z_c, z_ct, z_sk, sbne, lst1_d, ldel, lst2_d, ldel2, z_sw, z_rok, zi, eq_self, List.map_cons, List.map_nil, List.append_nil, List.nil_append, List.cons_append, Int32.reduceLT, Int32.reduceLE, Int32.reduceAdd, Int32.reduceSub, Int32.reduceMul, Int32.reduceToInt, Int32.reduceToNatClampNeg, Int.reduceLT, Int.reduceLE, Int.reduceNeg, true_and, and_true, or_self, or_false, false_or, false_and, and_false, true_or, or_true, if_true, if_false, ne_eq, Classical.not_not, not_true_eq_false, not_false_eq_true, true_implies, false_implies, implies_true, Nat.reduceEqDiff, Nat.reduceAdd, Nat.reduceLeDiff, Nat.reduceSub, reduceCtorEq, reduceIte, b255_0, n01]
      exact tail r' hq
    · refine vl_go r (by omega) (t := 92) rfl ?_
      simp only [lv_args, z_v, z_lg, z_h, z_u, z_u1, z_c, z_ct, z_sk, sbne, lst1_d, ldel, lst2_d, ldel2, z_sw, z_rok, zi, eq_self, List.map_cons, List.map_nil, List.append_nil, List.nil_append, List.cons_append, Int32.reduceLT, Int32.reduceLE, Int32.reduceAdd, Int32.reduceSub, Int32.reduceMul, Int32.reduceToInt, Int32.reduceToNatClampNeg, Int.reduceLT, Int.reduceLE, Int.reduceNeg, true_and, and_true, or_self, or_false, false_or, false_and, and_false, true_or, or_true, if_true, if_false, ne_eq, Classical.not_not, not_true_eq_false, not_false_eq_true, true_implies, false_implies, implies_true, Nat.reduceEqDiff, Nat.reduceAdd, Nat.reduceLeDiff, Nat.reduceSub, reduceCtorEq, reduceIte, b213_92, skM s, h0]
      unfold aEv
      have e58 : hI h 59 58 = nI th := r.2.2.2.2.2.2.2.1.1
      simp only [lv_args, z_v, z_lg, z_h, z_u, z_u1, z_c, z_ct, z_sk, sbne, lst1_d, ldel, lst2_d, ldel2, z_sw, z_rok, zi, eq_self, List.map_cons, List.map_nil, List.append_nil, List.nil_append, List.cons_append, Int32.reduceLT, Int32.reduceLE, Int32.reduceAdd, Int32.reduceSub, Int32.reduceMul, Int32.reduceToInt, Int32.reduceToNatClampNeg, Int.reduceLT, Int.reduceLE, Int.reduceNeg, true_and, and_true, or_self, or_false, false_or, false_and, and_false, true_or, or_true, if_true, if_false, ne_eq, Classical.not_not, not_true_eq_false, not_false_eq_true, true_implies, false_implies, implies_true, Nat.reduceEqDiff, Nat.reduceAdd, Nat.reduceLeDiff, Nat.reduceSub, reduceCtorEq, reduceIte, b255_0, b255_5, skM s, e58, nI_1, enw]
      refine tail ?_ hq
      obtain ⟨a1, a2, a3, a4, a5, a6, a7, ⟨d1, d2, d3, d4, d5, d6, d7⟩, a9, a10, a11⟩ := r'
      exact ⟨sm_L (sm_I a1), a2, a3, a4, a5, a6, a7, ⟨rfl, d2, d3, d4, rfl, d6, d7⟩, a9, a10, a11⟩
end REJ
