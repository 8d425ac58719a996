/-! let's last pair -/
section RES
variable {h h' : Hp} {Q : Option Value → Hp → Prop} {d : Nat} {G : PG} {q : Nat} {qv : Nat → Int64} {n : Nat} {N : Int32} {md : Option Nat} {nw v : Int64} {td : List TD} {wk xs : List Int64} {sl : List Nat} {bs : Nat} {pr : Option Nat} {bx : List Int64} {ps : List (Nat × List Nat)} {pa : List (Int64 × Int64)} {ce : Nat} {gr : List Int64} {P : List Int32 × List Int32 × Nat × Nat × Nat × Int64 × Nat}
theorem nI_sb {a b : Nat} : nI (a + b) - nI b = nI a := by
  rw [← nI_add, Int32.add_sub_cancel]
theorem lp_cnt {K : Nat} {x1 x2 x3 : Int32} (S : SM G q qv h) (hK : K ≤ 1000) (hq : aWP d 230 84 [(5, .int (-1)), (4, .int (nI K)), (3, .int x3), (0, .ref 59), (1, .int x1), (2, .int x2)] [] h Q) : ∀ (l : List Nat) (k : Nat) (c : Int32), Chn G c l → k + l.length = K → aWP d 230 60 [(5, .int c), (4, .int (nI k)), (3, .int x3), (0, .ref 59), (1, .int x1), (2, .int x2)] [] h Q := by
  intro l
  have s := S.1
  have P := S.2.2.2.1
  have r17 := S.2.2.2.2.1
  have pn := P.2.2.1
  obtain ⟨⟨k0, k1, k2, k4, k5, _⟩, w7, w8, w10, w11, _⟩ := prf s P.1
  induction l with
  | nil =>
    intro k c hc hk
    have hc : c = -1 := hc
    subst hc
    have hk : k = K := by simpa using hk
    subst hk
    simp only [lv_args, z_v, z_lg, z_h, z_u, z_u1, z_c, z_ct, z_sk, sbne, lst1_d, ldel, lst2_d, ldel2, z_sw, z_rok, zi, eq_self, List.map_cons, List.map_nil, List.append_nil, List.nil_append, List.cons_append, Int32.reduceLT, Int32.reduceLE, Int32.reduceAdd, Int32.reduceSub, Int32.reduceMul, Int32.reduceToInt, Int32.reduceToNatClampNeg, Int.reduceLT, Int.reduceLE, Int.reduceNeg, true_and, and_true, or_self, or_false, false_or, false_and, and_false, true_or, or_true, if_true, if_false, ne_eq, Classical.not_not, not_true_eq_false, not_false_eq_true, true_implies, false_implies, implies_true, Nat.reduceEqDiff, Nat.reduceAdd, Nat.reduceLeDiff, Nat.reduceSub, reduceCtorEq, reduceIte, b230_60]
    exact hq
  | cons a l ih =>
    intro k c hc hk
    obtain ⟨rfl, ha, hc⟩ := hc
    simp only [List.length_cons] at hk
    have ne := nI_m1' (a := a) (by omega)
    obtain ⟨p1, p2, p3⟩ := pm_n P (j := 5) (by decide) (by decide) ha
    have p2 : hA h (q + 5) a = G.1 25 a := p2
    have next := ih (k + 1) (G.1 25 a) hc (by omega)
    simp only [lv_args, z_v, z_lg, z_h, z_u, z_u1, z_c, z_ct, z_sk, sbne, lst1_d, ldel, lst2_d, ldel2, z_sw, z_rok, zi, eq_self, List.map_cons, List.map_nil, List.append_nil, List.nil_append, List.cons_append, Int32.reduceLT, Int32.reduceLE, Int32.reduceAdd, Int32.reduceSub, Int32.reduceMul, Int32.reduceToInt, Int32.reduceToNatClampNeg, Int.reduceLT, Int.reduceLE, Int.reduceNeg, true_and, and_true, or_self, or_false, false_or, false_and, and_false, true_or, or_true, if_true, if_false, ne_eq, Classical.not_not, not_true_eq_false, not_false_eq_true, true_implies, false_implies, implies_true, Nat.reduceEqDiff, Nat.reduceAdd, Nat.reduceLeDiff, Nat.reduceSub, reduceCtorEq, reduceIte, b230_60, ne]
    simp only [lv_args, z_v, z_lg, z_h, z_u, z_u1, z_c, z_ct, z_sk, sbne, lst1_d, ldel, lst2_d, ldel2, z_sw, z_rok, zi, eq_self, List.map_cons, List.map_nil, List.append_nil, List.nil_append, List.cons_append, Int32.reduceLT, Int32.reduceLE, Int32.reduceAdd, Int32.reduceSub, Int32.reduceMul, Int32.reduceToInt, Int32.reduceToNatClampNeg, Int.reduceLT, Int.reduceLE, Int.reduceNeg, true_and, and_true, or_self, or_false, false_or, false_and, and_false, true_or, or_true, if_true, if_false, ne_eq, Classical.not_not, not_true_eq_false, not_false_eq_true, true_implies, false_implies, implies_true, Nat.reduceEqDiff, Nat.reduceAdd, Nat.reduceLeDiff, Nat.reduceSub, reduceCtorEq, reduceIte, b230_66, skM s, r17, k0, w11, k5]
    simp (disch := omega) only [nI_ti, nI_cl, le0N, ltNN, p1, p2, true_and]
    refine ⟨p3, ?_⟩
    try simp only [lv_args, z_v, z_lg, z_h, z_u, z_u1, z_c, z_ct, z_sk, sbne, lst1_d, ldel, lst2_d, ldel2, z_sw, z_rok, zi, eq_self, List.map_cons, List.map_nil, List.append_nil, List.nil_append, List.cons_append, Int32.reduceLT, Int32.reduceLE, Int32.reduceAdd, Int32.reduceSub, Int32.reduceMul, Int32.reduceToInt, Int32.reduceToNatClampNeg, Int.reduceLT, Int.reduceLE, Int.reduceNeg, true_and, and_true, or_self, or_false, false_or, false_and, and_false, true_or, or_true, if_true, if_false, ne_eq, Classical.not_not, not_true_eq_false, not_false_eq_true, true_implies, false_implies, implies_true, Nat.reduceEqDiff, Nat.reduceAdd, Nat.reduceLeDiff, Nat.reduceSub, reduceCtorEq, reduceIte, b230_66, nI_1]
    exact next
theorem lp_loop {t i : Nat} {x1 x3 : Int32} (hd : 2 < d) (hi : i < pNn G) (ht : t < 100000) (e27 : G.1 27 i = nI t) (hK : bs + t + xs.length ≤ sl.length) (hx : xs.length ≤ 1000) (hl : sl.length ≤ 252000) (hq : ∀ h', RM G q qv ((md, nw, td, wk ++ xs), (nsl sl (bs + t) bx.length xs.length, bs, pr), (bx ++ xs, ps, pa, ce, gr), P) h' → aWP d 230 141 [(5, .int (nI xs.length)), (4, .int (nI xs.length)), (3, .int x3), (0, .ref 59), (1, .int x1), (2, .int (nI i))] [] h' Q) : ∀ (m k : Nat) (h : Hp), k + m = xs.length → RM G q qv ((md, nw, td, wk ++ xs), (nsl sl (bs + t) bx.length k, bs, pr), (bx ++ xs.take k, ps, pa, ce, gr), P) h → aWP d 230 87 [(5, .int (nI k)), (4, .int (nI xs.length)), (3, .int x3), (0, .ref 59), (1, .int x1), (2, .int (nI i))] [] h Q := by
  intro m
  induction m with
  | zero =>
    intro k h hk r
    have hk : k = xs.length := by omega
    subst hk
    rw [List.take_length] at r
    simp only [lv_args, z_v, z_lg, z_h, z_u, z_u1, z_c, z_ct, z_sk, sbne, lst1_d, ldel, lst2_d, ldel2, z_sw, z_rok, zi, eq_self, List.map_cons, List.map_nil, List.append_nil, List.nil_append, List.cons_append, Int32.reduceLT, Int32.reduceLE, Int32.reduceAdd, Int32.reduceSub, Int32.reduceMul, Int32.reduceToInt, Int32.reduceToNatClampNeg, Int.reduceLT, Int.reduceLE, Int.reduceNeg, true_and, and_true, or_self, or_false, false_or, false_and, and_false, true_or, or_true, if_true, if_false, ne_eq, Classical.not_not, not_true_eq_false, not_false_eq_true, true_implies, false_implies, implies_true, Nat.reduceEqDiff, Nat.reduceAdd, Nat.reduceLeDiff, Nat.reduceSub, reduceCtorEq, reduceIte, b230_87]
    simp (disch := omega) only [nI_leN]
    exact ⟨fun _ => hq h r, fun c => absurd (Nat.le_refl _) c⟩
  | succ m ih =>
    intro k h hk r
    have S := r.1
    have s := S.1
    have h0 : 0 < d := by omega
    have P0 := S.2.2.2.1
    have r17 := S.2.2.2.2.1
    obtain ⟨⟨k0, k1, k2, k4, k5, k6, k7, _⟩, w7, w8, w10, w11, w12, w13, _⟩ := prf s P0.1
    obtain ⟨v1, v2, v3⟩ := pm_n P0 (j := 7) (by decide) (by decide) hi
    have v2 : hA h (q + 7) i = nI t := v2.trans e27
    obtain ⟨u1, u2, u3, u4⟩ := rm_121 r
    rw [nsl_len] at u1
    have hj : bs + t + k < sl.length := by omega
    have hkx : k < xs.length := by omega
    obtain ⟨o1, o2, o3, o4⟩ := r.2.2.2.1
    have o1 : hI h 59 52 = nI (wk.length + xs.length) := by rw [← List.length_append]; exact o1
    have o2 : wk.length + xs.length ≤ hN h 125 := by rw [← List.length_append]; exact o2
    have o3 : hN h 125 ≤ 620000 := o3
    have o5 : hB h 125 (wk.length + k) = xs[k] := o4 _ _ (by
      show (wk ++ xs)[wk.length + k]? = _
      rw [List.getElem?_append_right (by omega), Nat.add_sub_cancel_left]
      exact List.getElem?_eq_getElem hkx)
    simp only [lv_args, z_v, z_lg, z_h, z_u, z_u1, z_c, z_ct, z_sk, sbne, lst1_d, ldel, lst2_d, ldel2, z_sw, z_rok, zi, eq_self, List.map_cons, List.map_nil, List.append_nil, List.nil_append, List.cons_append, Int32.reduceLT, Int32.reduceLE, Int32.reduceAdd, Int32.reduceSub, Int32.reduceMul, Int32.reduceToInt, Int32.reduceToNatClampNeg, Int.reduceLT, Int.reduceLE, Int.reduceNeg, true_and, and_true, or_self, or_false, false_or, false_and, and_false, true_or, or_true, if_true, if_false, ne_eq, Classical.not_not, not_true_eq_false, not_false_eq_true, true_implies, false_implies, implies_true, Nat.reduceEqDiff, Nat.reduceAdd, Nat.reduceLeDiff, Nat.reduceSub, reduceCtorEq, reduceIte, b230_87]
    simp (disch := omega) only [nI_leN]
    refine ⟨fun c => absurd c (by omega), fun _ => ?_⟩
    simp only [lv_args, z_v, z_lg, z_h, z_u, z_u1, z_c, z_ct, z_sk, sbne, lst1_d, ldel, lst2_d, ldel2, z_sw, z_rok, zi, eq_self, List.map_cons, List.map_nil, List.append_nil, List.nil_append, List.cons_append, Int32.reduceLT, Int32.reduceLE, Int32.reduceAdd, Int32.reduceSub, Int32.reduceMul, Int32.reduceToInt, Int32.reduceToNatClampNeg, Int.reduceLT, Int.reduceLE, Int.reduceNeg, true_and, and_true, or_self, or_false, false_or, false_and, and_false, true_or, or_true, if_true, if_false, ne_eq, Classical.not_not, not_true_eq_false, not_false_eq_true, true_implies, false_implies, implies_true, Nat.reduceEqDiff, Nat.reduceAdd, Nat.reduceLeDiff, Nat.reduceSub, reduceCtorEq, reduceIte, b230_94, skM s, srM s, h0, u3, r17, k0, w13, k7]
    simp (disch := omega) only [nI_ti, nI_cl, le0N, ltNN, v1, v2, true_and]
    refine ⟨v3, ?_⟩
    try simp only [lv_args, z_v, z_lg, z_h, z_u, z_u1, z_c, z_ct, z_sk, sbne, lst1_d, ldel, lst2_d, ldel2, z_sw, z_rok, zi, eq_self, List.map_cons, List.map_nil, List.append_nil, List.nil_append, List.cons_append, Int32.reduceLT, Int32.reduceLE, Int32.reduceAdd, Int32.reduceSub, Int32.reduceMul, Int32.reduceToInt, Int32.reduceToNatClampNeg, Int.reduceLT, Int.reduceLE, Int.reduceNeg, true_and, and_true, or_self, or_false, false_or, false_and, and_false, true_or, or_true, if_true, if_false, ne_eq, Classical.not_not, not_true_eq_false, not_false_eq_true, true_implies, false_implies, implies_true, Nat.reduceEqDiff, Nat.reduceAdd, Nat.reduceLeDiff, Nat.reduceSub, reduceCtorEq, reduceIte, b230_94, skM s, srM s, h0, o1, nI_sb, nI_add]
    simp (disch := omega) only [nI_ti, nI_cl, le0N, ltNN, o5, true_and]
    refine ⟨by omega, ?_⟩
    try simp only [lv_args, z_v, z_lg, z_h, z_u, z_u1, z_c, z_ct, z_sk, sbne, lst1_d, ldel, lst2_d, ldel2, z_sw, z_rok, zi, eq_self, List.map_cons, List.map_nil, List.append_nil, List.nil_append, List.cons_append, Int32.reduceLT, Int32.reduceLE, Int32.reduceAdd, Int32.reduceSub, Int32.reduceMul, Int32.reduceToInt, Int32.reduceToNatClampNeg, Int.reduceLT, Int.reduceLE, Int.reduceNeg, true_and, and_true, or_self, or_false, false_or, false_and, and_false, true_or, or_true, if_true, if_false, ne_eq, Classical.not_not, not_true_eq_false, not_false_eq_true, true_implies, false_implies, implies_true, Nat.reduceEqDiff, Nat.reduceAdd, Nat.reduceLeDiff, Nat.reduceSub, reduceCtorEq, reduceIte, b230_94, skM s, srM s, h0]
    refine sp_newBox r (by rw [nsl_len]; exact hl) (by omega) (fun b h' r' nb hv' => ?_)
    have s' := r'.1.1
    obtain ⟨y1, y2, y3, y4⟩ := rm_121 r'
    rw [nsl_len] at y1
    have r1 : RM G q qv ((md, nw, td, wk ++ xs), (nsl sl (bs + t) bx.length (k + 1), bs, pr), (bx ++ xs.take (k + 1), ps, pa, ce, gr), P) (pA h' 121 (upd (hA h' 121) (bs + t + k) (nI b))) := by
      have := rm_slot (j := bs + t + k) r' nb (by rw [nsl_len]; exact hj)
      rw [List.length_append, List.length_take, Nat.min_eq_left (by omega), List.append_assoc, List.take_append_getElem hkx] at this
      exact this
    have next := ih (k + 1) _ (by omega) r1
    simp only [lv_args, z_v, z_lg, z_h, z_u, z_u1, z_c, z_ct, z_sk, sbne, lst1_d, ldel, lst2_d, ldel2, z_sw, z_rok, zi, eq_self, List.map_cons, List.map_nil, List.append_nil, List.nil_append, List.cons_append, Int32.reduceLT, Int32.reduceLE, Int32.reduceAdd, Int32.reduceSub, Int32.reduceMul, Int32.reduceToInt, Int32.reduceToNatClampNeg, Int.reduceLT, Int.reduceLE, Int.reduceNeg, true_and, and_true, or_self, or_false, false_or, false_and, and_false, true_or, or_true, if_true, if_false, ne_eq, Classical.not_not, not_true_eq_false, not_false_eq_true, true_implies, false_implies, implies_true, Nat.reduceEqDiff, Nat.reduceAdd, Nat.reduceLeDiff, Nat.reduceSub, reduceCtorEq, reduceIte, b230_94, skM s, skM s', srM s', hv', Nat.reduceLT]
    simp (disch := omega) only [nI_ti, nI_cl, le0N, ltNN, true_and]
    refine ⟨by omega, ?_⟩
    try simp only [lv_args, z_v, z_lg, z_h, z_u, z_u1, z_c, z_ct, z_sk, sbne, lst1_d, ldel, lst2_d, ldel2, z_sw, z_rok, zi, eq_self, List.map_cons, List.map_nil, List.append_nil, List.nil_append, List.cons_append, Int32.reduceLT, Int32.reduceLE, Int32.reduceAdd, Int32.reduceSub, Int32.reduceMul, Int32.reduceToInt, Int32.reduceToNatClampNeg, Int.reduceLT, Int.reduceLE, Int.reduceNeg, true_and, and_true, or_self, or_false, false_or, false_and, and_false, true_or, or_true, if_true, if_false, ne_eq, Classical.not_not, not_true_eq_false, not_false_eq_true, true_implies, false_implies, implies_true, Nat.reduceEqDiff, Nat.reduceAdd, Nat.reduceLeDiff, Nat.reduceSub, reduceCtorEq, reduceIte, b230_94, nI_1]
    exact next
theorem rs_18 {y y' : RSt} (hr : RS1 G qv 18 y y') (r : RM G q qv y h) (hb : Bnd y) (hd : 30 < d) (hq : ∀ h', RM G q qv y' h' → aWP d 257 35 (LR N) [] h' Q) : aWP d 257 35 (LR N) [] h Q := by
  obtain ⟨⟨md, nw, td0, wk⟩, ⟨sl, bs, pr⟩, ⟨bx, ps, pa, ce, gr⟩, P⟩ := y
  match md, td0, hr with
  | none, (5, n, m) :: td, hr =>
    obtain ⟨p, i, c, li, b, e, pl, t, xs, wk', rfl, hp, e25, rfl, hi, hc, hli, hpl, hwk, hxl, e27, ht, hlen, rfl⟩ := hr
    have r' := rm_pop r
    have S := r'.1
    have s := r.1.1
    have s' := S.1
    have h0 : 0 < d - 1 := by omega
    have h01 : 0 < d - 1 - 1 := by omega
    have hb1 : td.length ≤ 44990 := by have hb1 : td.length + 1 ≤ 44000 := hb.1; omega
    have hb2 : wk.length ≤ 305000 := by have hb2 : wk.length ≤ 304000 := hb.2.1; omega
    have hb3 : sl.length ≤ 252000 := by have hb3 : sl.length ≤ 251000 := hb.2.2; omega
    have enw : hL h 59 65 = nw := r.2.1.1
    have pn := r.1.2.2.2.1.2.2.1
    have z1 : (1 : Int32) = nI 1 := rfl
    have z2 : (2 : Int32) = nI 2 := rfl
    have hln : li < pNn G := hc.2.2.2.1
    have hch : Chn G (G.1 25 li) (b :: e) := hc.2.2.2.2
    have hlen : bs + t + pl.length ≤ sl.length := hlen
    refine vl_go r (by omega) (t := 185) rfl ?_
    simp only [lv_args, z_v, z_lg, z_h, z_u, z_u1, z_c, z_ct, z_sk, sbne, lst1_d, ldel, lst2_d, ldel2, z_sw, z_rok, zi, eq_self, List.map_cons, List.map_nil, List.append_nil, List.nil_append, List.cons_append, Int32.reduceLT, Int32.reduceLE, Int32.reduceAdd, Int32.reduceSub, Int32.reduceMul, Int32.reduceToInt, Int32.reduceToNatClampNeg, Int.reduceLT, Int.reduceLE, Int.reduceNeg, true_and, and_true, or_self, or_false, false_or, false_and, and_false, true_or, or_true, if_true, if_false, ne_eq, Classical.not_not, not_true_eq_false, not_false_eq_true, true_implies, false_implies, implies_true, Nat.reduceEqDiff, Nat.reduceAdd, Nat.reduceLeDiff, Nat.reduceSub, reduceCtorEq, reduceIte, b213_185, skM s, h0]
    unfold aEv
    simp only [lv_args, z_v, z_lg, z_h, z_u, z_u1, z_c, z_ct, z_sk, sbne, lst1_d, ldel, lst2_d, ldel2, z_sw, z_rok, zi, eq_self, List.map_cons, List.map_nil, List.append_nil, List.nil_append, List.cons_append, Int32.reduceLT, Int32.reduceLE, Int32.reduceAdd, Int32.reduceSub, Int32.reduceMul, Int32.reduceToInt, Int32.reduceToNatClampNeg, Int.reduceLT, Int.reduceLE, Int.reduceNeg, true_and, and_true, or_self, or_false, false_or, false_and, and_false, true_or, or_true, if_true, if_false, ne_eq, Classical.not_not, not_true_eq_false, not_false_eq_true, true_implies, false_implies, implies_true, Nat.reduceEqDiff, Nat.reduceAdd, Nat.reduceLeDiff, Nat.reduceSub, reduceCtorEq, reduceIte, b230_0, skM s, h01, enw]
    refine sp_pushM (v := nw) S (by omega) r'.2.2.2.1 hb2 fun h1 S1 kk w1 => ?_
    have s1 := S1.1
    have P1 := S1.2.2.2.1
    have r17 := S1.2.2.2.2.1
    obtain ⟨⟨k0, k1, k2, k4, k5, _⟩, w7, w8, w10, w11, _⟩ := prf s1 P1.1
    obtain ⟨p1, p2, p3⟩ := pm_n P1 (j := 5) (by decide) (by decide) hp
    have p2 : hA h1 (q + 5) p = -1 := p2.trans e25
    obtain ⟨c1, c2, c3⟩ := pm_n P1 (j := 4) (by decide) (by decide) hln
    have c2 : hA h1 (q + 4) li = G.1 24 li := c2
    have r1 : RM G q qv ((none, nw, td, wk' ++ xs), (sl, bs, pr), (bx, ps, pa, ce, gr), P) h1 := by
      rw [← hwk]
      obtain ⟨a1, a2, a3, a4, a5, a6, a7, a8, a9, a10, a11⟩ := r'
      exact ⟨S1, kk.1 _ _ a2, kk.2.1 _ a3, w1, kk.2.2.1 _ _ _ _ _ a5, kk.2.2.2.1 _ _ _ a6, kk.2.2.2.2.1 _ _ a7, kk.2.2.2.2.2.1 _ _ _ _ _ a8, kk.2.2.2.2.2.2.1.trans a9, kk.2.2.2.2.2.2.2.1.trans a10, kk.2.2.2.2.2.2.2.2.trans a11.1, a11.2⟩
    simp only [lv_args, z_v, z_lg, z_h, z_u, z_u1, z_c, z_ct, z_sk, sbne, lst1_d, ldel, lst2_d, ldel2, z_sw, z_rok, zi, eq_self, List.map_cons, List.map_nil, List.append_nil, List.nil_append, List.cons_append, Int32.reduceLT, Int32.reduceLE, Int32.reduceAdd, Int32.reduceSub, Int32.reduceMul, Int32.reduceToInt, Int32.reduceToNatClampNeg, Int.reduceLT, Int.reduceLE, Int.reduceNeg, true_and, and_true, or_self, or_false, false_or, false_and, and_false, true_or, or_true, if_true, if_false, ne_eq, Classical.not_not, not_true_eq_false, not_false_eq_true, true_implies, false_implies, implies_true, Nat.reduceEqDiff, Nat.reduceAdd, Nat.reduceLeDiff, Nat.reduceSub, reduceCtorEq, reduceIte, b230_0, skM s, skM s1, Nat.reduceLT, r17, k0, w11, k5]
    simp (disch := omega) only [nI_ti, nI_cl, le0N, ltNN, p1, p2, true_and]
    refine ⟨p3, ?_⟩
    try simp only [lv_args, z_v, z_lg, z_h, z_u, z_u1, z_c, z_ct, z_sk, sbne, lst1_d, ldel, lst2_d, ldel2, z_sw, z_rok, zi, eq_self, List.map_cons, List.map_nil, List.append_nil, List.nil_append, List.cons_append, Int32.reduceLT, Int32.reduceLE, Int32.reduceAdd, Int32.reduceSub, Int32.reduceMul, Int32.reduceToInt, Int32.reduceToNatClampNeg, Int.reduceLT, Int.reduceLE, Int.reduceNeg, true_and, and_true, or_self, or_false, false_or, false_and, and_false, true_or, or_true, if_true, if_false, ne_eq, Classical.not_not, not_true_eq_false, not_false_eq_true, true_implies, false_implies, implies_true, Nat.reduceEqDiff, Nat.reduceAdd, Nat.reduceLeDiff, Nat.reduceSub, reduceCtorEq, reduceIte, b230_0]
    simp only [lv_args, z_v, z_lg, z_h, z_u, z_u1, z_c, z_ct, z_sk, sbne, lst1_d, ldel, lst2_d, ldel2, z_sw, z_rok, zi, eq_self, List.map_cons, List.map_nil, List.append_nil, List.nil_append, List.cons_append, Int32.reduceLT, Int32.reduceLE, Int32.reduceAdd, Int32.reduceSub, Int32.reduceMul, Int32.reduceToInt, Int32.reduceToNatClampNeg, Int.reduceLT, Int.reduceLE, Int.reduceNeg, true_and, and_true, or_self, or_false, false_or, false_and, and_false, true_or, or_true, if_true, if_false, ne_eq, Classical.not_not, not_true_eq_false, not_false_eq_true, true_implies, false_implies, implies_true, Nat.reduceEqDiff, Nat.reduceAdd, Nat.reduceLeDiff, Nat.reduceSub, reduceCtorEq, reduceIte, b230_41, skM s1, h01, z1, r17, k0, w10]
    refine sp_part S1 hi hc (i := 1) (m := li) rfl (by decide) ?_
    simp only [lv_args, z_v, z_lg, z_h, z_u, z_u1, z_c, z_ct, z_sk, sbne, lst1_d, ldel, lst2_d, ldel2, z_sw, z_rok, zi, eq_self, List.map_cons, List.map_nil, List.append_nil, List.nil_append, List.cons_append, Int32.reduceLT, Int32.reduceLE, Int32.reduceAdd, Int32.reduceSub, Int32.reduceMul, Int32.reduceToInt, Int32.reduceToNatClampNeg, Int.reduceLT, Int.reduceLE, Int.reduceNeg, true_and, and_true, or_self, or_false, false_or, false_and, and_false, true_or, or_true, if_true, if_false, ne_eq, Classical.not_not, not_true_eq_false, not_false_eq_true, true_implies, false_implies, implies_true, Nat.reduceEqDiff, Nat.reduceAdd, Nat.reduceLeDiff, Nat.reduceSub, reduceCtorEq, reduceIte, b230_41, skM s1, k4, Nat.reduceLT]
    simp (disch := omega) only [nI_ti, nI_cl, le0N, ltNN, c1, c2, true_and]
    refine ⟨c3, ?_⟩
    try simp only [lv_args, z_v, z_lg, z_h, z_u, z_u1, z_c, z_ct, z_sk, sbne, lst1_d, ldel, lst2_d, ldel2, z_sw, z_rok, zi, eq_self, List.map_cons, List.map_nil, List.append_nil, List.nil_append, List.cons_append, Int32.reduceLT, Int32.reduceLE, Int32.reduceAdd, Int32.reduceSub, Int32.reduceMul, Int32.reduceToInt, Int32.reduceToNatClampNeg, Int.reduceLT, Int.reduceLE, Int.reduceNeg, true_and, and_true, or_self, or_false, false_or, false_and, and_false, true_or, or_true, if_true, if_false, ne_eq, Classical.not_not, not_true_eq_false, not_false_eq_true, true_implies, false_implies, implies_true, Nat.reduceEqDiff, Nat.reduceAdd, Nat.reduceLeDiff, Nat.reduceSub, reduceCtorEq, reduceIte, b230_41]
    refine lp_cnt (K := xs.length) S1 (by omega) ?_ pl 0 (G.1 24 li) hli (by omega)
    simp only [lv_args, z_v, z_lg, z_h, z_u, z_u1, z_c, z_ct, z_sk, sbne, lst1_d, ldel, lst2_d, ldel2, z_sw, z_rok, zi, eq_self, List.map_cons, List.map_nil, List.append_nil, List.nil_append, List.cons_append, Int32.reduceLT, Int32.reduceLE, Int32.reduceAdd, Int32.reduceSub, Int32.reduceMul, Int32.reduceToInt, Int32.reduceToNatClampNeg, Int.reduceLT, Int.reduceLE, Int.reduceNeg, true_and, and_true, or_self, or_false, false_or, false_and, and_false, true_or, or_true, if_true, if_false, ne_eq, Classical.not_not, not_true_eq_false, not_false_eq_true, true_implies, false_implies, implies_true, Nat.reduceEqDiff, Nat.reduceAdd, Nat.reduceLeDiff, Nat.reduceSub, reduceCtorEq, reduceIte, b230_84]
    refine lp_loop (md := none) (nw := nw) (td := td) (wk := wk') (bx := bx) (sl := sl) (bs := bs) (xs := xs) (t := t) (by omega) hi ht e27 (by omega) (by omega) hb3 (fun h2 r2 => ?_) xs.length 0 h1 (by omega) (by simpa [nsl] using r1)
    have s2 := r2.1.1
    obtain ⟨o1, o2, o3, o4⟩ := r2.2.2.2.1
    have o1 : hI h2 59 52 = nI (wk'.length + xs.length) := by rw [← List.length_append]; exact o1
    have o2 : wk'.length + xs.length ≤ hN h2 125 := by rw [← List.length_append]; exact o2
    have r3 : RM G q qv ((none, nw, td, wk'), (nsl sl (bs + t) bx.length xs.length, bs, pr), (bx ++ xs, ps, pa, ce, gr), P) (pI h2 59 52 (nI wk'.length)) := by
      obtain ⟨a1, a2, a3, a4, a5, a6, a7, a8, a9, a10, a11⟩ := r2
      exact ⟨sm_I a1, a2, a3, ⟨rfl, by show wk'.length ≤ hN h2 125; omega, o3, fun i x hx => o4 i x (g_app hx)⟩, a5, a6, a7, a8, a9, a10, a11⟩
    have S3 := r3.1
    rw [hxl] at r3
    simp only [lv_args, z_v, z_lg, z_h, z_u, z_u1, z_c, z_ct, z_sk, sbne, lst1_d, ldel, lst2_d, ldel2, z_sw, z_rok, zi, eq_self, List.map_cons, List.map_nil, List.append_nil, List.nil_append, List.cons_append, Int32.reduceLT, Int32.reduceLE, Int32.reduceAdd, Int32.reduceSub, Int32.reduceMul, Int32.reduceToInt, Int32.reduceToNatClampNeg, Int.reduceLT, Int.reduceLE, Int.reduceNeg, true_and, and_true, or_self, or_false, false_or, false_and, and_false, true_or, or_true, if_true, if_false, ne_eq, Classical.not_not, not_true_eq_false, not_false_eq_true, true_implies, false_implies, implies_true, Nat.reduceEqDiff, Nat.reduceAdd, Nat.reduceLeDiff, Nat.reduceSub, reduceCtorEq, reduceIte, b230_141, skM s2, h01, o1, nI_sb, z2]
    refine sp_part S3 hi hc (i := 2) (m := b) rfl (by decide) ?_
    simp only [lv_args, z_v, z_lg, z_h, z_u, z_u1, z_c, z_ct, z_sk, sbne, lst1_d, ldel, lst2_d, ldel2, z_sw, z_rok, zi, eq_self, List.map_cons, List.map_nil, List.append_nil, List.nil_append, List.cons_append, Int32.reduceLT, Int32.reduceLE, Int32.reduceAdd, Int32.reduceSub, Int32.reduceMul, Int32.reduceToInt, Int32.reduceToNatClampNeg, Int.reduceLT, Int.reduceLE, Int.reduceNeg, true_and, and_true, or_self, or_false, false_or, false_and, and_false, true_or, or_true, if_true, if_false, ne_eq, Classical.not_not, not_true_eq_false, not_false_eq_true, true_implies, false_implies, implies_true, Nat.reduceEqDiff, Nat.reduceAdd, Nat.reduceLeDiff, Nat.reduceSub, reduceCtorEq, reduceIte, b230_141, skM s2, h01]
    refine sp_forms S3 (by omega) r3.2.2.1 r3.2.1 hb1 hch fun h4 S4 k2 k3 k4 k5 k6 k7 t' c' => ?_
    simp only [lv_args, z_v, z_lg, z_h, z_u, z_u1, z_c, z_ct, z_sk, sbne, lst1_d, ldel, lst2_d, ldel2, z_sw, z_rok, zi, eq_self, List.map_cons, List.map_nil, List.append_nil, List.nil_append, List.cons_append, Int32.reduceLT, Int32.reduceLE, Int32.reduceAdd, Int32.reduceSub, Int32.reduceMul, Int32.reduceToInt, Int32.reduceToNatClampNeg, Int.reduceLT, Int.reduceLE, Int.reduceNeg, true_and, and_true, or_self, or_false, false_or, false_and, and_false, true_or, or_true, if_true, if_false, ne_eq, Classical.not_not, not_true_eq_false, not_false_eq_true, true_implies, false_implies, implies_true, Nat.reduceEqDiff, Nat.reduceAdd, Nat.reduceLeDiff, Nat.reduceSub, reduceCtorEq, reduceIte, b230_141, b213_185, b213_300, skM s, skM s2, Nat.reduceLT]
    exact pr_ok (rm_forms r3 S4 k2 k3 k4 k5 k6 k7 t' c') hq
end RES
