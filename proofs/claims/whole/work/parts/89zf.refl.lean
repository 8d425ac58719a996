/-! bindings set in the reference; the row's end -/
section REL
variable {h h' : Hp} {Q : Option Value → Hp → Prop} {d : Nat} {G : PG} {q : Nat} {qv : Nat → Int64} {r n : Nat} {td : List TD} {z : RSt} {N : Int32} {md : Option Nat} {nw v : Int64} {wk : List Int64} {sl : List Nat} {bs : Nat} {pr : Option Nat} {bx : List Int64} {ps : List (Nat × List Nat)} {rl : Nat → Nat} {fl : List Nat} {pa : List (Int64 × Int64)} {ce : Nat} {gr : List Int64} {P : List Int32 × List Int32 × Nat × Nat × Nat × Int64 × Nat}
theorem bxs_set {b : Nat} {x : Int64} (B : Bxs sl bx ps h rl fl) (hl : b + 2 ∈ sl ∨ b ∈ kfl ps) : Bxs sl (bx.set b x) ps (pB h 119 (vp_updL (hB h 119) (rl b) x)) rl fl := by
  obtain ⟨B1, B2, B3, B4, B5, B6, B7⟩ := B
  refine ⟨B1, B2, fun b' hb' => ?_, B4, B5, B6, B7⟩
  obtain ⟨g1, y, g2, g3⟩ := B3 b' hb'
  refine ⟨g1, ?_⟩
  by_cases c : b' = b
  · subst c
    exact ⟨x, g_seteq (g_lt g2), if_pos rfl⟩
  · refine ⟨y, g_set g2 c, ?_⟩
    show (if rl b' = rl b then x else hB h 119 (rl b')) = y
    rw [if_neg (fun e => c (B4 b' b hb' hl e))]
    exact g3
theorem rs_st {i c a vv w : Nat} {m : Int32} (hi : i < pNn G) (hc : Chn G (G.1 24 i) [c, a, vv]) (hw : Fw G c w) (hw2 : w = 6 ∨ w = 10) (hw3 : w = 10 → G.1 26 a = 3 ∧ ∃ g, g < 100 ∧ G.1 27 a = nI g ∧ g < gr.length) (hv : w = 6 → Rdv G a (sl, bs, pr) bx ps gr v ∧ (G.1 26 a = 1 ∨ G.1 26 a = 2 ∨ G.1 26 a = 3)) (r : RM G q qv ((none, nw, (4, nI i, m) :: td, wk), (sl, bs, pr), (bx, ps, pa, ce, gr), P) h) (hd : 10 < d) (h1 : w = 6 → v = vof 9 0 → aWP d 257 35 (LR N) [] (hEr (pI h 59 50 (nI td.length)) 5) Q)
    (h2 : (w = 6 → v ≠ vof 9 0) → ∀ b, Bxo G a (sl, bs, pr) ps b → G.1 26 a ≠ 3 → ∀ h', RM G q qv ((none, 0, td, wk), (sl, bs, pr), (bx.set b nw, ps, pa, ce, gr), P) h' → aWP d 257 35 (LR N) [] h' Q)
    (h3 : (w = 6 → v ≠ vof 9 0) → G.1 26 a = 3 → ∀ g, g < 100 → G.1 27 a = nI g → ∀ h', RM G q qv ((none, 0, td, wk), (sl, bs, pr), (bx, ps, pa, ce, gr.set g nw), P) h' → aWP d 257 35 (LR N) [] h' Q) : aWP d 257 35 (LR N) [] h Q := by
  have r' := rm_pop r
  have S := r'.1
  have s := r.1.1
  have s' := S.1
  have h0 : 0 < d - 1 := by omega
  have h01 : 0 < d - 1 - 1 := by omega
  have enw : hL h 59 65 = nw := r.2.1.1
  have ha : a < pNn G := hc.2.2.2.1
  obtain ⟨M, rl, fl, B⟩ := mxb_0.mp r'.2.2.2.2.1
  have Ms := r'.2.2.2.2.2.1
  have PP := S.2.2.2.1
  have r17 := S.2.2.2.2.1
  obtain ⟨⟨k0, k1, k2, k4, k5, k6, k7, _⟩, w7, w8, w10, w11, w12, w13, _⟩ := prf s' PP.1
  obtain ⟨p1, p2, p3⟩ := pm_n PP (j := 6) (by decide) (by decide) ha
  obtain ⟨v1, v2, v3⟩ := pm_n PP (j := 7) (by decide) (by decide) ha
  have p2 : hA (pI h 59 50 (nI td.length)) (q + 6) a = G.1 26 a := p2
  have v2 : hA (pI h 59 50 (nI td.length)) (q + 7) a = G.1 27 a := v2
  have p1' : hN h (q + 6) = 6200 := p1
  have p2' : hA h (q + 6) a = G.1 26 a := p2
  have v1' : hN h (q + 7) = 6200 := v1
  have v2' : hA h (q + 7) a = G.1 27 a := v2
  have r17' : hR h 59 17 = some q := r17
  have k0' : hK h q = 11 := k0
  have k6' : hK h (q + 6) = 14 := k6
  have k7' : hK h (q + 7) = 14 := k7
  have w12' : hR h q 12 = some (q + 6) := w12
  have w13' : hR h q 13 = some (q + 7) := w13
  have n119 : hN h 119 ≤ 300000 := by
    rcases M.2.2.2 with e | e | e | e <;> (have e : hN h 119 = _ := e; omega)
  -- the writing
  have wr : ∀ {b0 : Int32} , (w = 6 → v ≠ vof 9 0) → (G.1 26 a = 3 ∨ ∃ b, Bxo G a (sl, bs, pr) ps b) → aWP (d - 1 - 1) 260 45 [(3, .int b0), (2, .int (nI a)), (0, .ref 59), (1, .int (nI i))] [] (pI h 59 50 (nI td.length)) (aCt (d - 1) 213 182 [(2, .int m), (1, .int (nI i)), (0, .ref 59)] [] (pI h 59 50 (nI td.length)) (PR d N Q)) := fun {b0} hne hb => by
    simp only [lv_args, z_v, z_lg, z_h, z_u, z_u1, z_c, z_ct, z_sk, sbne, lst1_d, ldel, lst2_d, ldel2, z_sw, z_rok, zi, eq_self, List.map_cons, List.map_nil, List.append_nil, List.nil_append, List.cons_append, Int32.reduceLT, Int32.reduceLE, Int32.reduceAdd, Int32.reduceSub, Int32.reduceMul, Int32.reduceToInt, Int32.reduceToNatClampNeg, Int.reduceLT, Int.reduceLE, Int.reduceNeg, true_and, and_true, or_self, or_false, false_or, false_and, and_false, true_or, or_true, if_true, if_false, ne_eq, Classical.not_not, not_true_eq_false, not_false_eq_true, true_implies, false_implies, implies_true, Nat.reduceEqDiff, Nat.reduceAdd, Nat.reduceLeDiff, Nat.reduceSub, reduceCtorEq, reduceIte, b260_45, skM s, r17', k0', w12', k6']
    simp (disch := omega) only [nI_ti, nI_cl, le0N, ltNN, p1', p2', true_and]
    refine ⟨p3, ?_⟩
    try simp only [lv_args, z_v, z_lg, z_h, z_u, z_u1, z_c, z_ct, z_sk, sbne, lst1_d, ldel, lst2_d, ldel2, z_sw, z_rok, zi, eq_self, List.map_cons, List.map_nil, List.append_nil, List.nil_append, List.cons_append, Int32.reduceLT, Int32.reduceLE, Int32.reduceAdd, Int32.reduceSub, Int32.reduceMul, Int32.reduceToInt, Int32.reduceToNatClampNeg, Int.reduceLT, Int.reduceLE, Int.reduceNeg, true_and, and_true, or_self, or_false, false_or, false_and, and_false, true_or, or_true, if_true, if_false, ne_eq, Classical.not_not, not_true_eq_false, not_false_eq_true, true_implies, false_implies, implies_true, Nat.reduceEqDiff, Nat.reduceAdd, Nat.reduceLeDiff, Nat.reduceSub, reduceCtorEq, reduceIte, b260_45]
    by_cases c3 : G.1 26 a = 3
    · refine ⟨fun c => absurd c3 c, fun _ => ?_⟩
      have hg : ∃ g, g < 100 ∧ G.1 27 a = nI g := by
        rcases hw2 with e | e
        · rcases (hv e).1 with ⟨b, b1, _⟩ | ⟨_, g, g1, g2, _⟩ | ⟨c4, _⟩
          · rcases b1 with ⟨e', _⟩ | ⟨e', _⟩ <;> rw [c3] at e' <;> exact absurd e' (by decide)
          · exact ⟨g, g1, g2⟩
          · rw [c3] at c4; exact absurd c4 (by decide)
        · obtain ⟨_, g, g1, g2, _⟩ := hw3 e
          exact ⟨g, g1, g2⟩
      obtain ⟨g, g1, g2⟩ := hg
      have n126 : hN h 126 = 3000 := Ms.2.2.2.2.2.2.2.1
      simp only [lv_args, z_v, z_lg, z_h, z_u, z_u1, z_c, z_ct, z_sk, sbne, lst1_d, ldel, lst2_d, ldel2, z_sw, z_rok, zi, eq_self, List.map_cons, List.map_nil, List.append_nil, List.nil_append, List.cons_append, Int32.reduceLT, Int32.reduceLE, Int32.reduceAdd, Int32.reduceSub, Int32.reduceMul, Int32.reduceToInt, Int32.reduceToNatClampNeg, Int.reduceLT, Int.reduceLE, Int.reduceNeg, true_and, and_true, or_self, or_false, false_or, false_and, and_false, true_or, or_true, if_true, if_false, ne_eq, Classical.not_not, not_true_eq_false, not_false_eq_true, true_implies, false_implies, implies_true, Nat.reduceEqDiff, Nat.reduceAdd, Nat.reduceLeDiff, Nat.reduceSub, reduceCtorEq, reduceIte, b260_58, skM s, srM s, r17', k0', w13', k7']
      simp (disch := omega) only [nI_ti, nI_cl, le0N, ltNN, v1', v2', g2, true_and]
      refine ⟨v3, ?_⟩
      try simp only [lv_args, z_v, z_lg, z_h, z_u, z_u1, z_c, z_ct, z_sk, sbne, lst1_d, ldel, lst2_d, ldel2, z_sw, z_rok, zi, eq_self, List.map_cons, List.map_nil, List.append_nil, List.nil_append, List.cons_append, Int32.reduceLT, Int32.reduceLE, Int32.reduceAdd, Int32.reduceSub, Int32.reduceMul, Int32.reduceToInt, Int32.reduceToNatClampNeg, Int.reduceLT, Int.reduceLE, Int.reduceNeg, true_and, and_true, or_self, or_false, false_or, false_and, and_false, true_or, or_true, if_true, if_false, ne_eq, Classical.not_not, not_true_eq_false, not_false_eq_true, true_implies, false_implies, implies_true, Nat.reduceEqDiff, Nat.reduceAdd, Nat.reduceLeDiff, Nat.reduceSub, reduceCtorEq, reduceIte, b260_58, skM s, srM s, enw]
      simp (disch := omega) only [nI_ti, nI_cl, le0N, ltNN, n126, true_and]
      refine ⟨by omega, ?_⟩
      have sB : Sk (pB (pI h 59 50 (nI td.length)) 126 (vp_updL (hB h 126) g nw)) := (sk_same rfl rfl rfl : Sk _ = Sk h) ▸ s
      try simp only [lv_args, z_v, z_lg, z_h, z_u, z_u1, z_c, z_ct, z_sk, sbne, lst1_d, ldel, lst2_d, ldel2, z_sw, z_rok, zi, eq_self, List.map_cons, List.map_nil, List.append_nil, List.nil_append, List.cons_append, Int32.reduceLT, Int32.reduceLE, Int32.reduceAdd, Int32.reduceSub, Int32.reduceMul, Int32.reduceToInt, Int32.reduceToNatClampNeg, Int.reduceLT, Int.reduceLE, Int.reduceNeg, true_and, and_true, or_self, or_false, false_or, false_and, and_false, true_or, or_true, if_true, if_false, ne_eq, Classical.not_not, not_true_eq_false, not_false_eq_true, true_implies, false_implies, implies_true, Nat.reduceEqDiff, Nat.reduceAdd, Nat.reduceLeDiff, Nat.reduceSub, reduceCtorEq, reduceIte, b260_58, b260_93, skM s, h01, e219_59 _ _ sB]
      simp only [lv_args, z_v, z_lg, z_h, z_u, z_u1, z_c, z_ct, z_sk, sbne, lst1_d, ldel, lst2_d, ldel2, z_sw, z_rok, zi, eq_self, List.map_cons, List.map_nil, List.append_nil, List.nil_append, List.cons_append, Int32.reduceLT, Int32.reduceLE, Int32.reduceAdd, Int32.reduceSub, Int32.reduceMul, Int32.reduceToInt, Int32.reduceToNatClampNeg, Int.reduceLT, Int.reduceLE, Int.reduceNeg, true_and, and_true, or_self, or_false, false_or, false_and, and_false, true_or, or_true, if_true, if_false, ne_eq, Classical.not_not, not_true_eq_false, not_false_eq_true, true_implies, false_implies, implies_true, Nat.reduceEqDiff, Nat.reduceAdd, Nat.reduceLeDiff, Nat.reduceSub, reduceCtorEq, reduceIte, b213_177, b213_300, skM s, Nat.reduceLT]
      refine pr_ok (z' := ((none, 0, td, wk), (sl, bs, pr), (bx, ps, pa, ce, gr.set g nw), P)) ?_ (h3 hne c3 g g1 g2)
      refine rm_is (md := none) (nw := nw) ?_
      obtain ⟨a1, a2, a3, a4, a5, ⟨x1, x2, x3, x4, x5, x6, x7, x8, x9, x10⟩, a7, a8, a9, a10, a11⟩ := r'
      exact ⟨sm_B (by decide) a1, a2, a3, a4, a5, ⟨x1, x2, x3, x4, x5, x6, x7, x8, by show (gr.set g nw).length ≤ 100; rw [List.length_set]; exact x9, upd_set x10⟩, a7, a8, a9, a10, a11⟩
    · refine ⟨fun _ => ?_, fun c => absurd c c3⟩
      obtain ⟨b, b1⟩ := hb.resolve_left c3
      have hlv := bxo_live B M b1
      obtain ⟨x1, _⟩ := B.2.2.1 b hlv
      have x1 : rl b < hN h 119 := x1
      simp only [lv_args, z_v, z_lg, z_h, z_u, z_u1, z_c, z_ct, z_sk, sbne, lst1_d, ldel, lst2_d, ldel2, z_sw, z_rok, zi, eq_self, List.map_cons, List.map_nil, List.append_nil, List.nil_append, List.cons_append, Int32.reduceLT, Int32.reduceLE, Int32.reduceAdd, Int32.reduceSub, Int32.reduceMul, Int32.reduceToInt, Int32.reduceToNatClampNeg, Int.reduceLT, Int.reduceLE, Int.reduceNeg, true_and, and_true, or_self, or_false, false_or, false_and, and_false, true_or, or_true, if_true, if_false, ne_eq, Classical.not_not, not_true_eq_false, not_false_eq_true, true_implies, false_implies, implies_true, Nat.reduceEqDiff, Nat.reduceAdd, Nat.reduceLeDiff, Nat.reduceSub, reduceCtorEq, reduceIte, b260_79, skM s, srM s, h01]
      refine sp_boxOf S M B ha b1 ?_
      simp only [lv_args, z_v, z_lg, z_h, z_u, z_u1, z_c, z_ct, z_sk, sbne, lst1_d, ldel, lst2_d, ldel2, z_sw, z_rok, zi, eq_self, List.map_cons, List.map_nil, List.append_nil, List.nil_append, List.cons_append, Int32.reduceLT, Int32.reduceLE, Int32.reduceAdd, Int32.reduceSub, Int32.reduceMul, Int32.reduceToInt, Int32.reduceToNatClampNeg, Int.reduceLT, Int.reduceLE, Int.reduceNeg, true_and, and_true, or_self, or_false, false_or, false_and, and_false, true_or, or_true, if_true, if_false, ne_eq, Classical.not_not, not_true_eq_false, not_false_eq_true, true_implies, false_implies, implies_true, Nat.reduceEqDiff, Nat.reduceAdd, Nat.reduceLeDiff, Nat.reduceSub, reduceCtorEq, reduceIte, b260_79, skM s, srM s, enw]
      simp (disch := omega) only [nI_ti, nI_cl, le0N, ltNN, true_and]
      refine ⟨x1, ?_⟩
      have sB : Sk (pB (pI h 59 50 (nI td.length)) 119 (vp_updL (hB h 119) (rl b) nw)) := (sk_same rfl rfl rfl : Sk _ = Sk h) ▸ s
      try simp only [lv_args, z_v, z_lg, z_h, z_u, z_u1, z_c, z_ct, z_sk, sbne, lst1_d, ldel, lst2_d, ldel2, z_sw, z_rok, zi, eq_self, List.map_cons, List.map_nil, List.append_nil, List.nil_append, List.cons_append, Int32.reduceLT, Int32.reduceLE, Int32.reduceAdd, Int32.reduceSub, Int32.reduceMul, Int32.reduceToInt, Int32.reduceToNatClampNeg, Int.reduceLT, Int.reduceLE, Int.reduceNeg, true_and, and_true, or_self, or_false, false_or, false_and, and_false, true_or, or_true, if_true, if_false, ne_eq, Classical.not_not, not_true_eq_false, not_false_eq_true, true_implies, false_implies, implies_true, Nat.reduceEqDiff, Nat.reduceAdd, Nat.reduceLeDiff, Nat.reduceSub, reduceCtorEq, reduceIte, b260_79, b260_93, skM s, h01, e219_59 _ _ sB]
      simp only [lv_args, z_v, z_lg, z_h, z_u, z_u1, z_c, z_ct, z_sk, sbne, lst1_d, ldel, lst2_d, ldel2, z_sw, z_rok, zi, eq_self, List.map_cons, List.map_nil, List.append_nil, List.nil_append, List.cons_append, Int32.reduceLT, Int32.reduceLE, Int32.reduceAdd, Int32.reduceSub, Int32.reduceMul, Int32.reduceToInt, Int32.reduceToNatClampNeg, Int.reduceLT, Int.reduceLE, Int.reduceNeg, true_and, and_true, or_self, or_false, false_or, false_and, and_false, true_or, or_true, if_true, if_false, ne_eq, Classical.not_not, not_true_eq_false, not_false_eq_true, true_implies, false_implies, implies_true, Nat.reduceEqDiff, Nat.reduceAdd, Nat.reduceLeDiff, Nat.reduceSub, reduceCtorEq, reduceIte, b213_177, b213_300, skM s, Nat.reduceLT]
      refine pr_ok (z' := ((none, 0, td, wk), (sl, bs, pr), (bx.set b nw, ps, pa, ce, gr), P)) ?_ (h2 hne b b1 c3)
      refine rm_is (md := none) (nw := nw) ?_
      obtain ⟨a1, a2, a3, a4, a5, a6, a7, a8, a9, a10, a11⟩ := r'
      exact ⟨sm_B (by decide) a1, a2, a3, a4, mxb_0.mpr ⟨M, rl, fl, bxs_set B hlv⟩, a6, a7, a8, a9, a10, a11⟩
  have z1 : (1 : Int32) = nI 1 := rfl
  refine vl_go r (by omega) (t := 177) rfl ?_
  simp only [lv_args, z_v, z_lg, z_h, z_u, z_u1, z_c, z_ct, z_sk, sbne, lst1_d, ldel, lst2_d, ldel2, z_sw, z_rok, zi, eq_self, List.map_cons, List.map_nil, List.append_nil, List.nil_append, List.cons_append, Int32.reduceLT, Int32.reduceLE, Int32.reduceAdd, Int32.reduceSub, Int32.reduceMul, Int32.reduceToInt, Int32.reduceToNatClampNeg, Int.reduceLT, Int.reduceLE, Int.reduceNeg, true_and, and_true, or_self, or_false, false_or, false_and, and_false, true_or, or_true, if_true, if_false, ne_eq, Classical.not_not, not_true_eq_false, not_false_eq_true, true_implies, false_implies, implies_true, Nat.reduceEqDiff, Nat.reduceAdd, Nat.reduceLeDiff, Nat.reduceSub, reduceCtorEq, reduceIte, b213_177, skM s, h0]
  unfold aEv
  simp only [lv_args, z_v, z_lg, z_h, z_u, z_u1, z_c, z_ct, z_sk, sbne, lst1_d, ldel, lst2_d, ldel2, z_sw, z_rok, zi, eq_self, List.map_cons, List.map_nil, List.append_nil, List.nil_append, List.cons_append, Int32.reduceLT, Int32.reduceLE, Int32.reduceAdd, Int32.reduceSub, Int32.reduceMul, Int32.reduceToInt, Int32.reduceToNatClampNeg, Int.reduceLT, Int.reduceLE, Int.reduceNeg, true_and, and_true, or_self, or_false, false_or, false_and, and_false, true_or, or_true, if_true, if_false, ne_eq, Classical.not_not, not_true_eq_false, not_false_eq_true, true_implies, false_implies, implies_true, Nat.reduceEqDiff, Nat.reduceAdd, Nat.reduceLeDiff, Nat.reduceSub, reduceCtorEq, reduceIte, b260_0, skM s, h01, z1]
  refine sp_part S hi hc (i := 1) (m := a) rfl (by decide) ?_
  simp only [lv_args, z_v, z_lg, z_h, z_u, z_u1, z_c, z_ct, z_sk, sbne, lst1_d, ldel, lst2_d, ldel2, z_sw, z_rok, zi, eq_self, List.map_cons, List.map_nil, List.append_nil, List.nil_append, List.cons_append, Int32.reduceLT, Int32.reduceLE, Int32.reduceAdd, Int32.reduceSub, Int32.reduceMul, Int32.reduceToInt, Int32.reduceToNatClampNeg, Int.reduceLT, Int.reduceLE, Int.reduceNeg, true_and, and_true, or_self, or_false, false_or, false_and, and_false, true_or, or_true, if_true, if_false, ne_eq, Classical.not_not, not_true_eq_false, not_false_eq_true, true_implies, false_implies, implies_true, Nat.reduceEqDiff, Nat.reduceAdd, Nat.reduceLeDiff, Nat.reduceSub, reduceCtorEq, reduceIte, b260_0, skM s, h01]
  refine sp_fw S hi hc hw ?_
  rcases hw2 with rfl | rfl
  · have n6 : ¬ (nI 6 = (10 : Int32)) := by decide
    have ef : (38654705664 : Int64) = vof 9 0 := by decide
    obtain ⟨hv1, hv2⟩ := hv rfl
    simp only [lv_args, z_v, z_lg, z_h, z_u, z_u1, z_c, z_ct, z_sk, sbne, lst1_d, ldel, lst2_d, ldel2, z_sw, z_rok, zi, eq_self, List.map_cons, List.map_nil, List.append_nil, List.nil_append, List.cons_append, Int32.reduceLT, Int32.reduceLE, Int32.reduceAdd, Int32.reduceSub, Int32.reduceMul, Int32.reduceToInt, Int32.reduceToNatClampNeg, Int.reduceLT, Int.reduceLE, Int.reduceNeg, true_and, and_true, or_self, or_false, false_or, false_and, and_false, true_or, or_true, if_true, if_false, ne_eq, Classical.not_not, not_true_eq_false, not_false_eq_true, true_implies, false_implies, implies_true, Nat.reduceEqDiff, Nat.reduceAdd, Nat.reduceLeDiff, Nat.reduceSub, reduceCtorEq, reduceIte, b260_0, b260_21, b260_22, n6]
    simp only [lv_args, z_v, z_lg, z_h, z_u, z_u1, z_c, z_ct, z_sk, sbne, lst1_d, ldel, lst2_d, ldel2, z_sw, z_rok, zi, eq_self, List.map_cons, List.map_nil, List.append_nil, List.nil_append, List.cons_append, Int32.reduceLT, Int32.reduceLE, Int32.reduceAdd, Int32.reduceSub, Int32.reduceMul, Int32.reduceToInt, Int32.reduceToNatClampNeg, Int.reduceLT, Int.reduceLE, Int.reduceNeg, true_and, and_true, or_self, or_false, false_or, false_and, and_false, true_or, or_true, if_true, if_false, ne_eq, Classical.not_not, not_true_eq_false, not_false_eq_true, true_implies, false_implies, implies_true, Nat.reduceEqDiff, Nat.reduceAdd, Nat.reduceLeDiff, Nat.reduceSub, reduceCtorEq, reduceIte, b260_27, skM s, h01]
    refine sp_valOf S (by omega) M B Ms ha hv1 ?_
    simp only [lv_args, z_v, z_lg, z_h, z_u, z_u1, z_c, z_ct, z_sk, sbne, lst1_d, ldel, lst2_d, ldel2, z_sw, z_rok, zi, eq_self, List.map_cons, List.map_nil, List.append_nil, List.nil_append, List.cons_append, Int32.reduceLT, Int32.reduceLE, Int32.reduceAdd, Int32.reduceSub, Int32.reduceMul, Int32.reduceToInt, Int32.reduceToNatClampNeg, Int.reduceLT, Int.reduceLE, Int.reduceNeg, true_and, and_true, or_self, or_false, false_or, false_and, and_false, true_or, or_true, if_true, if_false, ne_eq, Classical.not_not, not_true_eq_false, not_false_eq_true, true_implies, false_implies, implies_true, Nat.reduceEqDiff, Nat.reduceAdd, Nat.reduceLeDiff, Nat.reduceSub, reduceCtorEq, reduceIte, b260_27, cmp_0, ef]
    refine ⟨fun c9 => ?_, fun c9 => ?_⟩
    · refine wr (fun _ => c9) ?_
      rcases hv1 with ⟨b, b1, _⟩ | ⟨c3, _⟩ | ⟨c4, _⟩
      · exact Or.inr ⟨b, b1⟩
      · exact Or.inl c3
      · rcases hv2 with e | e | e <;> rw [e] at c4 <;> exact absurd c4 (by decide)
    · simp only [lv_args, z_v, z_lg, z_h, z_u, z_u1, z_c, z_ct, z_sk, sbne, lst1_d, ldel, lst2_d, ldel2, z_sw, z_rok, zi, eq_self, List.map_cons, List.map_nil, List.append_nil, List.nil_append, List.cons_append, Int32.reduceLT, Int32.reduceLE, Int32.reduceAdd, Int32.reduceSub, Int32.reduceMul, Int32.reduceToInt, Int32.reduceToNatClampNeg, Int.reduceLT, Int.reduceLE, Int.reduceNeg, true_and, and_true, or_self, or_false, false_or, false_and, and_false, true_or, or_true, if_true, if_false, ne_eq, Classical.not_not, not_true_eq_false, not_false_eq_true, true_implies, false_implies, implies_true, Nat.reduceEqDiff, Nat.reduceAdd, Nat.reduceLeDiff, Nat.reduceSub, reduceCtorEq, reduceIte, b260_39, skM s]
      simp only [lv_args, z_v, z_lg, z_h, z_u, z_u1, z_c, z_ct, z_sk, sbne, lst1_d, ldel, lst2_d, ldel2, z_sw, z_rok, zi, eq_self, List.map_cons, List.map_nil, List.append_nil, List.nil_append, List.cons_append, Int32.reduceLT, Int32.reduceLE, Int32.reduceAdd, Int32.reduceSub, Int32.reduceMul, Int32.reduceToInt, Int32.reduceToNatClampNeg, Int.reduceLT, Int.reduceLE, Int.reduceNeg, true_and, and_true, or_self, or_false, false_or, false_and, and_false, true_or, or_true, if_true, if_false, ne_eq, Classical.not_not, not_true_eq_false, not_false_eq_true, true_implies, false_implies, implies_true, Nat.reduceEqDiff, Nat.reduceAdd, Nat.reduceLeDiff, Nat.reduceSub, reduceCtorEq, reduceIte, b213_177, b213_300, skM s, Nat.reduceLT]
      exact pr_er (e := 5) ((sk_same rfl rfl rfl : Sk _ = Sk h) ▸ s) (by decide) (by decide) rfl (h1 rfl c9)
  · have n10 : (nI 10 = (10 : Int32)) = True := eq_true rfl
    have z10 : ¬ (1 : Int32) = 0 := by decide
    have zz : ¬ nI 1 = (0 : Int32) := by decide
    simp only [lv_args, z_v, z_lg, z_h, z_u, z_u1, z_c, z_ct, z_sk, sbne, lst1_d, ldel, lst2_d, ldel2, z_sw, z_rok, zi, eq_self, List.map_cons, List.map_nil, List.append_nil, List.nil_append, List.cons_append, Int32.reduceLT, Int32.reduceLE, Int32.reduceAdd, Int32.reduceSub, Int32.reduceMul, Int32.reduceToInt, Int32.reduceToNatClampNeg, Int.reduceLT, Int.reduceLE, Int.reduceNeg, true_and, and_true, or_self, or_false, false_or, false_and, and_false, true_or, or_true, if_true, if_false, ne_eq, Classical.not_not, not_true_eq_false, not_false_eq_true, true_implies, false_implies, implies_true, Nat.reduceEqDiff, Nat.reduceAdd, Nat.reduceLeDiff, Nat.reduceSub, reduceCtorEq, reduceIte, b260_0, b260_17, b260_22, n10, z10, zz]
    exact wr (fun e => absurd e (by decide)) (Or.inl (hw3 rfl).1)
end REL
