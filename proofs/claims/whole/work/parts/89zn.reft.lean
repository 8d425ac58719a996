/-! letrec's pairs -/
section RET
variable {h h' : Hp} {Q : Option Value → Hp → Prop} {d : Nat} {G : PG} {q : Nat} {qv : Nat → Int64} {n : Nat} {N : Int32} {sl : List Nat} {bs : Nat} {pr : Option Nat} {bx : List Int64} {ps : List (Nat × List Nat)} {pa : List (Int64 × Int64)} {ce : Nat} {gr : List Int64} {P : List Int32 × List Int32 × Nat × Nat × Nat × Int64 × Nat}
theorem chn_det (pn : pNn G ≤ 6200) : ∀ {l l' : List Nat} {c : Int32}, Chn G c l → Chn G c l' → l = l'
  | [], [], _, _, _ => rfl
  | [], a :: l', c, h, h' => by
    have h : c = -1 := h
    obtain ⟨e, ha, _⟩ := h'
    exact absurd (e.symm.trans h) (nI_m1' (by omega))
  | a :: l, [], c, h, h' => by
    have h' : c = -1 := h'
    obtain ⟨e, ha, _⟩ := h
    exact absurd (e.symm.trans h') (nI_m1' (by omega))
  | a :: l, b :: l', c, h, h' => by
    obtain ⟨e, ha, h⟩ := h
    obtain ⟨e', hb, h'⟩ := h'
    have : a = b := nI_inj (by omega) (by omega) (e.symm.trans e')
    subst this
    rw [chn_det pn h h']
theorem chn_suf : ∀ {l l' : List Nat} {p : Nat} {c : Int32}, Chn G c (l ++ p :: l') → Chn G (G.1 25 p) l'
  | [], _, _, _, h => h.2.2
  | _ :: l, _, _, _, h => chn_suf (l := l) h.2.2
theorem chn_nd (pn : pNn G ≤ 6200) : ∀ {l l' : List Nat} {p : Nat} {c : Int32}, Chn G c (l ++ p :: l') → p ∉ l
  | [], _, _, _, _ => List.not_mem_nil
  | a :: l, l', p, c, h => fun e => by
    rcases List.mem_cons.mp e with e | e
    · subst e
      have h1 : Chn G (G.1 25 p) (l ++ p :: l') := h.2.2
      have h2 : Chn G (G.1 25 p) l' := chn_suf (l := l) h1
      have := congrArg List.length (chn_det pn h1 h2)
      rw [List.length_append, List.length_cons] at this
      omega
    · exact chn_nd pn (l := l) h.2.2 e
theorem rp_loop {K t i p : Nat} {pl' : List Nat} (S : SM G q qv h) (ht : t < 100000) (hp : p < pNn G) (hK : K ≤ 1000) (hq : aWP d 231 50 [(4, .int (nI p)), (3, .int (nI (t + K))), (0, .ref 59), (1, .int (nI p)), (2, .int (nI i))] [] h Q) : ∀ (l : List Nat) (k : Nat) (c : Int32), Chn G c (l ++ p :: pl') → p ∉ l → k + l.length = K → aWP d 231 26 [(4, .int c), (3, .int (nI (t + k))), (0, .ref 59), (1, .int (nI p)), (2, .int (nI i))] [] h Q := by
  intro l
  have s := S.1
  have P := S.2.2.2.1
  have r17 := S.2.2.2.2.1
  have pn := P.2.2.1
  obtain ⟨⟨k0, k1, k2, k4, k5, _⟩, w7, w8, w10, w11, _⟩ := prf s P.1
  induction l with
  | nil =>
    intro k c hc _ hk
    have hc : c = nI p := hc.1
    subst hc
    have hk : k = K := by simpa using hk
    subst hk
    simp only [lv_args, z_v, z_lg, z_h, z_u, z_u1, z_c, z_ct, z_sk, sbne, lst1_d, ldel, lst2_d, ldel2, z_sw, z_rok, zi, eq_self, List.map_cons, List.map_nil, List.append_nil, List.nil_append, List.cons_append, Int32.reduceLT, Int32.reduceLE, Int32.reduceAdd, Int32.reduceSub, Int32.reduceMul, Int32.reduceToInt, Int32.reduceToNatClampNeg, Int.reduceLT, Int.reduceLE, Int.reduceNeg, true_and, and_true, or_self, or_false, false_or, false_and, and_false, true_or, or_true, if_true, if_false, ne_eq, Classical.not_not, not_true_eq_false, not_false_eq_true, true_implies, false_implies, implies_true, Nat.reduceEqDiff, Nat.reduceAdd, Nat.reduceLeDiff, Nat.reduceSub, reduceCtorEq, reduceIte, b231_26]
    exact hq
  | cons a l ih =>
    intro k c hc hnp hk
    obtain ⟨rfl, ha, hc⟩ := hc
    simp only [List.length_cons] at hk
    simp only [List.mem_cons, not_or] at hnp
    have ne : ¬ nI a = nI p := fun e => hnp.1 (nI_inj (by omega) (by omega) e).symm
    obtain ⟨p1, p2, p3⟩ := pm_n P (j := 5) (by decide) (by decide) ha
    have p2 : hA h (q + 5) a = G.1 25 a := p2
    have next := ih (k + 1) (G.1 25 a) hc hnp.2 (by omega)
    simp only [lv_args, z_v, z_lg, z_h, z_u, z_u1, z_c, z_ct, z_sk, sbne, lst1_d, ldel, lst2_d, ldel2, z_sw, z_rok, zi, eq_self, List.map_cons, List.map_nil, List.append_nil, List.nil_append, List.cons_append, Int32.reduceLT, Int32.reduceLE, Int32.reduceAdd, Int32.reduceSub, Int32.reduceMul, Int32.reduceToInt, Int32.reduceToNatClampNeg, Int.reduceLT, Int.reduceLE, Int.reduceNeg, true_and, and_true, or_self, or_false, false_or, false_and, and_false, true_or, or_true, if_true, if_false, ne_eq, Classical.not_not, not_true_eq_false, not_false_eq_true, true_implies, false_implies, implies_true, Nat.reduceEqDiff, Nat.reduceAdd, Nat.reduceLeDiff, Nat.reduceSub, reduceCtorEq, reduceIte, b231_26, ne]
    simp only [lv_args, z_v, z_lg, z_h, z_u, z_u1, z_c, z_ct, z_sk, sbne, lst1_d, ldel, lst2_d, ldel2, z_sw, z_rok, zi, eq_self, List.map_cons, List.map_nil, List.append_nil, List.nil_append, List.cons_append, Int32.reduceLT, Int32.reduceLE, Int32.reduceAdd, Int32.reduceSub, Int32.reduceMul, Int32.reduceToInt, Int32.reduceToNatClampNeg, Int.reduceLT, Int.reduceLE, Int.reduceNeg, true_and, and_true, or_self, or_false, false_or, false_and, and_false, true_or, or_true, if_true, if_false, ne_eq, Classical.not_not, not_true_eq_false, not_false_eq_true, true_implies, false_implies, implies_true, Nat.reduceEqDiff, Nat.reduceAdd, Nat.reduceLeDiff, Nat.reduceSub, reduceCtorEq, reduceIte, b231_32, skM s, r17, k0, w11, k5]
    simp (disch := omega) only [nI_ti, nI_cl, le0N, ltNN, p1, p2, true_and]
    refine ⟨p3, ?_⟩
    try simp only [lv_args, z_v, z_lg, z_h, z_u, z_u1, z_c, z_ct, z_sk, sbne, lst1_d, ldel, lst2_d, ldel2, z_sw, z_rok, zi, eq_self, List.map_cons, List.map_nil, List.append_nil, List.nil_append, List.cons_append, Int32.reduceLT, Int32.reduceLE, Int32.reduceAdd, Int32.reduceSub, Int32.reduceMul, Int32.reduceToInt, Int32.reduceToNatClampNeg, Int.reduceLT, Int.reduceLE, Int.reduceNeg, true_and, and_true, or_self, or_false, false_or, false_and, and_false, true_or, or_true, if_true, if_false, ne_eq, Classical.not_not, not_true_eq_false, not_false_eq_true, true_implies, false_implies, implies_true, Nat.reduceEqDiff, Nat.reduceAdd, Nat.reduceLeDiff, Nat.reduceSub, reduceCtorEq, reduceIte, b231_32, nI_1]
    exact next
theorem rs_19 {y y' : RSt} (hr : RS1 G qv 19 y y') (r : RM G q qv y h) (hb : Bnd y) (hd : 30 < d) (hq : ∀ h', RM G q qv y' h' → aWP d 257 35 (LR N) [] h' Q) : aWP d 257 35 (LR N) [] h Q := by
  obtain ⟨⟨md, nw, td0, wk⟩, ⟨sl, bs, pr⟩, ⟨bx, ps, pa, ce, gr⟩, P⟩ := y
  match md, td0, hr with
  | none, (6, n, m) :: td, hr =>
    obtain ⟨p, i, c, li, b, e, pl, pl', t, x, rfl, hp, rfl, hi, hc, hli, hpl, e27, ht, hx, hz⟩ := hr
    have r' := rm_pop r
    have S := r'.1
    have s := r.1.1
    have s' := S.1
    have h0 : 0 < d - 1 := by omega
    have h01 : 0 < d - 1 - 1 := by omega
    have hb1 : td.length ≤ 44990 := by have hb1 : td.length + 1 ≤ 44000 := hb.1; omega
    have enw : hL h 59 65 = nw := r.2.1.1
    have pn := r.1.2.2.2.1.2.2.1
    have z1 : (1 : Int32) = nI 1 := rfl
    have z2 : (2 : Int32) = nI 2 := rfl
    have hln : li < pNn G := hc.2.2.2.1
    have hch : Chn G (G.1 25 li) (b :: e) := hc.2.2.2.2
    have hps : Chn G (G.1 25 p) pl' := chn_suf (l := pl) hli
    have P0 := r.1.2.2.2.1
    have r17 := r.1.2.2.2.2.1
    obtain ⟨⟨k0, k1, k2, k4, k5, k6, k7, _⟩, w7, w8, w10, w11, w12, w13, _⟩ := prf s P0.1
    obtain ⟨c1, c2, c3⟩ := pm_n P0 (j := 4) (by decide) (by decide) hln
    have c2 : hA h (q + 4) li = G.1 24 li := c2
    obtain ⟨v1, v2, v3⟩ := pm_n P0 (j := 7) (by decide) (by decide) hi
    have v2 : hA h (q + 7) i = nI t := v2.trans e27
    obtain ⟨o1, o2, o3⟩ := pm_n P0 (j := 5) (by decide) (by decide) hp
    have o2 : hA h (q + 5) p = G.1 25 p := o2
    obtain ⟨u1, u2, u3, u4⟩ := rm_121 r
    have hxl := g_lt hx
    obtain ⟨M, rl, fl, B⟩ := mxb_0.mp r'.2.2.2.2.1
    have hlv : x + 2 ∈ sl ∨ x ∈ kfl ps := Or.inl (List.mem_of_getElem? hx)
    obtain ⟨x1, _⟩ := B.2.2.1 x hlv
    have x1 : rl x < hN h 119 := x1
    have ea : hA h 121 (bs + t + pl.length) = nI (rl x) := by
      rcases B.1 _ _ hx with ⟨e, _⟩ | ⟨b', e, e2⟩
      · omega
      · have : b' = x := by omega
        subst this
        exact e2
    have n119 : hN h 119 ≤ 300000 := by
      rcases M.2.2.2 with e | e | e | e <;> (have e : hN h 119 = _ := e; omega)
    have ej : bs + (t + pl.length) = bs + t + pl.length := by omega
    refine vl_go r (by omega) (t := 194) rfl ?_
    simp only [lv_args, z_v, z_lg, z_h, z_u, z_u1, z_c, z_ct, z_sk, sbne, lst1_d, ldel, lst2_d, ldel2, z_sw, z_rok, zi, eq_self, List.map_cons, List.map_nil, List.append_nil, List.nil_append, List.cons_append, Int32.reduceLT, Int32.reduceLE, Int32.reduceAdd, Int32.reduceSub, Int32.reduceMul, Int32.reduceToInt, Int32.reduceToNatClampNeg, Int.reduceLT, Int.reduceLE, Int.reduceNeg, true_and, and_true, or_self, or_false, false_or, false_and, and_false, true_or, or_true, if_true, if_false, ne_eq, Classical.not_not, not_true_eq_false, not_false_eq_true, true_implies, false_implies, implies_true, Nat.reduceEqDiff, Nat.reduceAdd, Nat.reduceLeDiff, Nat.reduceSub, reduceCtorEq, reduceIte, b213_194, skM s, h0]
    unfold aEv
    simp only [lv_args, z_v, z_lg, z_h, z_u, z_u1, z_c, z_ct, z_sk, sbne, lst1_d, ldel, lst2_d, ldel2, z_sw, z_rok, zi, eq_self, List.map_cons, List.map_nil, List.append_nil, List.nil_append, List.cons_append, Int32.reduceLT, Int32.reduceLE, Int32.reduceAdd, Int32.reduceSub, Int32.reduceMul, Int32.reduceToInt, Int32.reduceToNatClampNeg, Int.reduceLT, Int.reduceLE, Int.reduceNeg, true_and, and_true, or_self, or_false, false_or, false_and, and_false, true_or, or_true, if_true, if_false, ne_eq, Classical.not_not, not_true_eq_false, not_false_eq_true, true_implies, false_implies, implies_true, Nat.reduceEqDiff, Nat.reduceAdd, Nat.reduceLeDiff, Nat.reduceSub, reduceCtorEq, reduceIte, b231_0, skM s, r17, k0, w13, k7]
    simp (disch := omega) only [nI_ti, nI_cl, le0N, ltNN, v1, v2, true_and]
    refine ⟨v3, ?_⟩
    try simp only [lv_args, z_v, z_lg, z_h, z_u, z_u1, z_c, z_ct, z_sk, sbne, lst1_d, ldel, lst2_d, ldel2, z_sw, z_rok, zi, eq_self, List.map_cons, List.map_nil, List.append_nil, List.nil_append, List.cons_append, Int32.reduceLT, Int32.reduceLE, Int32.reduceAdd, Int32.reduceSub, Int32.reduceMul, Int32.reduceToInt, Int32.reduceToNatClampNeg, Int.reduceLT, Int.reduceLE, Int.reduceNeg, true_and, and_true, or_self, or_false, false_or, false_and, and_false, true_or, or_true, if_true, if_false, ne_eq, Classical.not_not, not_true_eq_false, not_false_eq_true, true_implies, false_implies, implies_true, Nat.reduceEqDiff, Nat.reduceAdd, Nat.reduceLeDiff, Nat.reduceSub, reduceCtorEq, reduceIte, b231_0, skM s, r17, k0, w10, h01, z1]
    refine sp_part S hi hc (i := 1) (m := li) rfl (by decide) ?_
    simp only [lv_args, z_v, z_lg, z_h, z_u, z_u1, z_c, z_ct, z_sk, sbne, lst1_d, ldel, lst2_d, ldel2, z_sw, z_rok, zi, eq_self, List.map_cons, List.map_nil, List.append_nil, List.nil_append, List.cons_append, Int32.reduceLT, Int32.reduceLE, Int32.reduceAdd, Int32.reduceSub, Int32.reduceMul, Int32.reduceToInt, Int32.reduceToNatClampNeg, Int.reduceLT, Int.reduceLE, Int.reduceNeg, true_and, and_true, or_self, or_false, false_or, false_and, and_false, true_or, or_true, if_true, if_false, ne_eq, Classical.not_not, not_true_eq_false, not_false_eq_true, true_implies, false_implies, implies_true, Nat.reduceEqDiff, Nat.reduceAdd, Nat.reduceLeDiff, Nat.reduceSub, reduceCtorEq, reduceIte, b231_0, skM s, k4, Nat.reduceLT]
    simp (disch := omega) only [nI_ti, nI_cl, le0N, ltNN, c1, c2, true_and]
    refine ⟨c3, ?_⟩
    try simp only [lv_args, z_v, z_lg, z_h, z_u, z_u1, z_c, z_ct, z_sk, sbne, lst1_d, ldel, lst2_d, ldel2, z_sw, z_rok, zi, eq_self, List.map_cons, List.map_nil, List.append_nil, List.nil_append, List.cons_append, Int32.reduceLT, Int32.reduceLE, Int32.reduceAdd, Int32.reduceSub, Int32.reduceMul, Int32.reduceToInt, Int32.reduceToNatClampNeg, Int.reduceLT, Int.reduceLE, Int.reduceNeg, true_and, and_true, or_self, or_false, false_or, false_and, and_false, true_or, or_true, if_true, if_false, ne_eq, Classical.not_not, not_true_eq_false, not_false_eq_true, true_implies, false_implies, implies_true, Nat.reduceEqDiff, Nat.reduceAdd, Nat.reduceLeDiff, Nat.reduceSub, reduceCtorEq, reduceIte, b231_0]
    refine rp_loop (K := pl.length) (pl' := pl') S ht hp (by omega) ?_ pl 0 (G.1 24 li) hli (chn_nd pn hli) (by omega)
    have r1 : RM G q qv ((none, nw, td, wk), (sl, bs, pr), (bx.set x nw, ps, pa, ce, gr), P) (pB (pI h 59 50 (nI td.length)) 119 (vp_updL (hB h 119) (rl x) nw)) := by
      obtain ⟨a1, a2, a3, a4, a5, a6, a7, a8, a9, a10, a11⟩ := r'
      exact ⟨sm_B (by decide) a1, a2, a3, a4, mxb_0.mpr ⟨M, rl, fl, bxs_set B hlv⟩, a6, a7, a8, a9, a10, a11⟩
    have S1 := r1.1
    have s1 := S1.1
    simp only [lv_args, z_v, z_lg, z_h, z_u, z_u1, z_c, z_ct, z_sk, sbne, lst1_d, ldel, lst2_d, ldel2, z_sw, z_rok, zi, eq_self, List.map_cons, List.map_nil, List.append_nil, List.nil_append, List.cons_append, Int32.reduceLT, Int32.reduceLE, Int32.reduceAdd, Int32.reduceSub, Int32.reduceMul, Int32.reduceToInt, Int32.reduceToNatClampNeg, Int.reduceLT, Int.reduceLE, Int.reduceNeg, true_and, and_true, or_self, or_false, false_or, false_and, and_false, true_or, or_true, if_true, if_false, ne_eq, Classical.not_not, not_true_eq_false, not_false_eq_true, true_implies, false_implies, implies_true, Nat.reduceEqDiff, Nat.reduceAdd, Nat.reduceLeDiff, Nat.reduceSub, reduceCtorEq, reduceIte, b231_50, skM s, srM s, u3, enw, nI_add, ej]
    simp (disch := omega) only [nI_ti, nI_cl, le0N, ltNN, ea, true_and]
    refine ⟨by omega, ?_⟩
    try simp only [lv_args, z_v, z_lg, z_h, z_u, z_u1, z_c, z_ct, z_sk, sbne, lst1_d, ldel, lst2_d, ldel2, z_sw, z_rok, zi, eq_self, List.map_cons, List.map_nil, List.append_nil, List.nil_append, List.cons_append, Int32.reduceLT, Int32.reduceLE, Int32.reduceAdd, Int32.reduceSub, Int32.reduceMul, Int32.reduceToInt, Int32.reduceToNatClampNeg, Int.reduceLT, Int.reduceLE, Int.reduceNeg, true_and, and_true, or_self, or_false, false_or, false_and, and_false, true_or, or_true, if_true, if_false, ne_eq, Classical.not_not, not_true_eq_false, not_false_eq_true, true_implies, false_implies, implies_true, Nat.reduceEqDiff, Nat.reduceAdd, Nat.reduceLeDiff, Nat.reduceSub, reduceCtorEq, reduceIte, b231_50, skM s, srM s, enw]
    try simp (disch := omega) only [nI_ti, nI_cl, le0N, ltNN, true_and]
    refine ⟨x1, ?_⟩
    try simp only [lv_args, z_v, z_lg, z_h, z_u, z_u1, z_c, z_ct, z_sk, sbne, lst1_d, ldel, lst2_d, ldel2, z_sw, z_rok, zi, eq_self, List.map_cons, List.map_nil, List.append_nil, List.nil_append, List.cons_append, Int32.reduceLT, Int32.reduceLE, Int32.reduceAdd, Int32.reduceSub, Int32.reduceMul, Int32.reduceToInt, Int32.reduceToNatClampNeg, Int.reduceLT, Int.reduceLE, Int.reduceNeg, true_and, and_true, or_self, or_false, false_or, false_and, and_false, true_or, or_true, if_true, if_false, ne_eq, Classical.not_not, not_true_eq_false, not_false_eq_true, true_implies, false_implies, implies_true, Nat.reduceEqDiff, Nat.reduceAdd, Nat.reduceLeDiff, Nat.reduceSub, reduceCtorEq, reduceIte, b231_50, skM s, srM s, r17, k0, w11, k5]
    try simp (disch := omega) only [nI_ti, nI_cl, le0N, ltNN, o1, o2, true_and]
    refine ⟨o3, ?_⟩
    rcases hz with ⟨rfl, rfl⟩ | ⟨g, l, a, v, rfl, hg, rfl⟩
    · have e25 : G.1 25 p = -1 := hps
      try simp only [lv_args, z_v, z_lg, z_h, z_u, z_u1, z_c, z_ct, z_sk, sbne, lst1_d, ldel, lst2_d, ldel2, z_sw, z_rok, zi, eq_self, List.map_cons, List.map_nil, List.append_nil, List.nil_append, List.cons_append, Int32.reduceLT, Int32.reduceLE, Int32.reduceAdd, Int32.reduceSub, Int32.reduceMul, Int32.reduceToInt, Int32.reduceToNatClampNeg, Int.reduceLT, Int.reduceLE, Int.reduceNeg, true_and, and_true, or_self, or_false, false_or, false_and, and_false, true_or, or_true, if_true, if_false, ne_eq, Classical.not_not, not_true_eq_false, not_false_eq_true, true_implies, false_implies, implies_true, Nat.reduceEqDiff, Nat.reduceAdd, Nat.reduceLeDiff, Nat.reduceSub, reduceCtorEq, reduceIte, b231_50, e25]
      simp only [lv_args, z_v, z_lg, z_h, z_u, z_u1, z_c, z_ct, z_sk, sbne, lst1_d, ldel, lst2_d, ldel2, z_sw, z_rok, zi, eq_self, List.map_cons, List.map_nil, List.append_nil, List.nil_append, List.cons_append, Int32.reduceLT, Int32.reduceLE, Int32.reduceAdd, Int32.reduceSub, Int32.reduceMul, Int32.reduceToInt, Int32.reduceToNatClampNeg, Int.reduceLT, Int.reduceLE, Int.reduceNeg, true_and, and_true, or_self, or_false, false_or, false_and, and_false, true_or, or_true, if_true, if_false, ne_eq, Classical.not_not, not_true_eq_false, not_false_eq_true, true_implies, false_implies, implies_true, Nat.reduceEqDiff, Nat.reduceAdd, Nat.reduceLeDiff, Nat.reduceSub, reduceCtorEq, reduceIte, b231_87, skM s, skM s1, h01, z2]
      refine sp_part S1 hi hc (i := 2) (m := b) rfl (by decide) ?_
      simp only [lv_args, z_v, z_lg, z_h, z_u, z_u1, z_c, z_ct, z_sk, sbne, lst1_d, ldel, lst2_d, ldel2, z_sw, z_rok, zi, eq_self, List.map_cons, List.map_nil, List.append_nil, List.nil_append, List.cons_append, Int32.reduceLT, Int32.reduceLE, Int32.reduceAdd, Int32.reduceSub, Int32.reduceMul, Int32.reduceToInt, Int32.reduceToNatClampNeg, Int.reduceLT, Int.reduceLE, Int.reduceNeg, true_and, and_true, or_self, or_false, false_or, false_and, and_false, true_or, or_true, if_true, if_false, ne_eq, Classical.not_not, not_true_eq_false, not_false_eq_true, true_implies, false_implies, implies_true, Nat.reduceEqDiff, Nat.reduceAdd, Nat.reduceLeDiff, Nat.reduceSub, reduceCtorEq, reduceIte, b231_87, skM s, skM s1, h01]
      refine sp_forms S1 (by omega) r1.2.2.1 r1.2.1 hb1 hch fun h4 S4 k2 k3 k4 k5 k6 k7 t' c' => ?_
      simp only [lv_args, z_v, z_lg, z_h, z_u, z_u1, z_c, z_ct, z_sk, sbne, lst1_d, ldel, lst2_d, ldel2, z_sw, z_rok, zi, eq_self, List.map_cons, List.map_nil, List.append_nil, List.nil_append, List.cons_append, Int32.reduceLT, Int32.reduceLE, Int32.reduceAdd, Int32.reduceSub, Int32.reduceMul, Int32.reduceToInt, Int32.reduceToNatClampNeg, Int.reduceLT, Int.reduceLE, Int.reduceNeg, true_and, and_true, or_self, or_false, false_or, false_and, and_false, true_or, or_true, if_true, if_false, ne_eq, Classical.not_not, not_true_eq_false, not_false_eq_true, true_implies, false_implies, implies_true, Nat.reduceEqDiff, Nat.reduceAdd, Nat.reduceLeDiff, Nat.reduceSub, reduceCtorEq, reduceIte, b231_87, b213_194, b213_300, skM s, skM s1, Nat.reduceLT]
      exact pr_ok (rm_forms r1 S4 k2 k3 k4 k5 k6 k7 t' c') hq
    · have e25 : G.1 25 p = nI g := hps.1
      have hg2 : g < pNn G := hps.2.1
      have ne := nI_m1' (a := g) (by omega)
      try simp only [lv_args, z_v, z_lg, z_h, z_u, z_u1, z_c, z_ct, z_sk, sbne, lst1_d, ldel, lst2_d, ldel2, z_sw, z_rok, zi, eq_self, List.map_cons, List.map_nil, List.append_nil, List.nil_append, List.cons_append, Int32.reduceLT, Int32.reduceLE, Int32.reduceAdd, Int32.reduceSub, Int32.reduceMul, Int32.reduceToInt, Int32.reduceToNatClampNeg, Int.reduceLT, Int.reduceLE, Int.reduceNeg, true_and, and_true, or_self, or_false, false_or, false_and, and_false, true_or, or_true, if_true, if_false, ne_eq, Classical.not_not, not_true_eq_false, not_false_eq_true, true_implies, false_implies, implies_true, Nat.reduceEqDiff, Nat.reduceAdd, Nat.reduceLeDiff, Nat.reduceSub, reduceCtorEq, reduceIte, b231_50, e25, ne]
      simp only [lv_args, z_v, z_lg, z_h, z_u, z_u1, z_c, z_ct, z_sk, sbne, lst1_d, ldel, lst2_d, ldel2, z_sw, z_rok, zi, eq_self, List.map_cons, List.map_nil, List.append_nil, List.nil_append, List.cons_append, Int32.reduceLT, Int32.reduceLE, Int32.reduceAdd, Int32.reduceSub, Int32.reduceMul, Int32.reduceToInt, Int32.reduceToNatClampNeg, Int.reduceLT, Int.reduceLE, Int.reduceNeg, true_and, and_true, or_self, or_false, false_or, false_and, and_false, true_or, or_true, if_true, if_false, ne_eq, Classical.not_not, not_true_eq_false, not_false_eq_true, true_implies, false_implies, implies_true, Nat.reduceEqDiff, Nat.reduceAdd, Nat.reduceLeDiff, Nat.reduceSub, reduceCtorEq, reduceIte, b231_98, skM s, skM s1, h01]
      refine sp_todo (k := 6) S1 (by omega) r1.2.2.1 hb1 (by decide) fun h2 S2 kk2 t2 => ?_
      have r2 := rm_todo r1 S2 kk2 t2
      have s2 := S2.1
      simp only [lv_args, z_v, z_lg, z_h, z_u, z_u1, z_c, z_ct, z_sk, sbne, lst1_d, ldel, lst2_d, ldel2, z_sw, z_rok, zi, eq_self, List.map_cons, List.map_nil, List.append_nil, List.nil_append, List.cons_append, Int32.reduceLT, Int32.reduceLE, Int32.reduceAdd, Int32.reduceSub, Int32.reduceMul, Int32.reduceToInt, Int32.reduceToNatClampNeg, Int.reduceLT, Int.reduceLE, Int.reduceNeg, true_and, and_true, or_self, or_false, false_or, false_and, and_false, true_or, or_true, if_true, if_false, ne_eq, Classical.not_not, not_true_eq_false, not_false_eq_true, true_implies, false_implies, implies_true, Nat.reduceEqDiff, Nat.reduceAdd, Nat.reduceLeDiff, Nat.reduceSub, reduceCtorEq, reduceIte, b231_98, skM s, skM s1, skM s2, Nat.reduceLT, h01, z1]
      refine sp_part S2 hg2 hg (i := 1) (m := v) rfl (by decide) ?_
      simp only [lv_args, z_v, z_lg, z_h, z_u, z_u1, z_c, z_ct, z_sk, sbne, lst1_d, ldel, lst2_d, ldel2, z_sw, z_rok, zi, eq_self, List.map_cons, List.map_nil, List.append_nil, List.nil_append, List.cons_append, Int32.reduceLT, Int32.reduceLE, Int32.reduceAdd, Int32.reduceSub, Int32.reduceMul, Int32.reduceToInt, Int32.reduceToNatClampNeg, Int.reduceLT, Int.reduceLE, Int.reduceNeg, true_and, and_true, or_self, or_false, false_or, false_and, and_false, true_or, or_true, if_true, if_false, ne_eq, Classical.not_not, not_true_eq_false, not_false_eq_true, true_implies, false_implies, implies_true, Nat.reduceEqDiff, Nat.reduceAdd, Nat.reduceLeDiff, Nat.reduceSub, reduceCtorEq, reduceIte, b231_98, skM s2, h01, e206_59 _ _ s2]
      simp only [lv_args, z_v, z_lg, z_h, z_u, z_u1, z_c, z_ct, z_sk, sbne, lst1_d, ldel, lst2_d, ldel2, z_sw, z_rok, zi, eq_self, List.map_cons, List.map_nil, List.append_nil, List.nil_append, List.cons_append, Int32.reduceLT, Int32.reduceLE, Int32.reduceAdd, Int32.reduceSub, Int32.reduceMul, Int32.reduceToInt, Int32.reduceToNatClampNeg, Int.reduceLT, Int.reduceLE, Int.reduceNeg, true_and, and_true, or_self, or_false, false_or, false_and, and_false, true_or, or_true, if_true, if_false, ne_eq, Classical.not_not, not_true_eq_false, not_false_eq_true, true_implies, false_implies, implies_true, Nat.reduceEqDiff, Nat.reduceAdd, Nat.reduceLeDiff, Nat.reduceSub, reduceCtorEq, reduceIte, b213_194, b213_300, skM s, Nat.reduceLT]
      exact pr_ok (rm_form r2) hq
end RET
