/-! BUILD, whole -/
theorem op_build : OpS (InvC (CoreM Mach)) 161 290 1 := by
  intro k h As hk hi hl hv
  obtain ⟨z, rfl⟩ := as_1 hl hv
  have up := inv_up (coc_of mach_com) hi
  obtain ⟨s, ⟨tp, t1, t2, t3, t4, t5, t6⟩, ⟨f1, f2⟩, pi, po, hh, D, J, pt, sk, vy, rm, rq, p, q, vs, H⟩ := hi
  have h0 : 0 < 1399 := by decide
  change aWP 1399 161 0 (lv_args 0 [.ref 0, .int z]) [] h _
  by_cases c0 : z < 0
  · simp only [lv_args, z_v, z_lg, z_h, z_u, z_u1, z_c, z_ct, z_sk, sbne, lst1_d, ldel, lst2_d, ldel2, z_sw, z_rok, zi, eq_self, List.map_cons, List.map_nil, List.append_nil, List.nil_append, List.cons_append, Int32.reduceLT, Int32.reduceLE, Int32.reduceAdd, Int32.reduceSub, Int32.reduceMul, Int32.reduceToInt, Int32.reduceToNatClampNeg, Int.reduceLT, Int.reduceLE, Int.reduceNeg, true_and, and_true, or_self, or_false, false_or, false_and, and_false, true_or, or_true, if_true, if_false, ne_eq, Classical.not_not, not_true_eq_false, not_false_eq_true, true_implies, false_implies, implies_true, Nat.reduceEqDiff, Nat.reduceAdd, Nat.reduceLeDiff, Nat.reduceSub, reduceCtorEq, reduceIte, b161_0, c0]
    simp only [lv_args, z_v, z_lg, z_h, z_u, z_u1, z_c, z_ct, z_sk, sbne, lst1_d, ldel, lst2_d, ldel2, z_sw, z_rok, zi, eq_self, List.map_cons, List.map_nil, List.append_nil, List.nil_append, List.cons_append, Int32.reduceLT, Int32.reduceLE, Int32.reduceAdd, Int32.reduceSub, Int32.reduceMul, Int32.reduceToInt, Int32.reduceToNatClampNeg, Int.reduceLT, Int.reduceLE, Int.reduceNeg, true_and, and_true, or_self, or_false, false_or, false_and, and_false, true_or, or_true, if_true, if_false, ne_eq, Classical.not_not, not_true_eq_false, not_false_eq_true, true_implies, false_implies, implies_true, Nat.reduceEqDiff, Nat.reduceAdd, Nat.reduceLeDiff, Nat.reduceSub, reduceCtorEq, reduceIte, b161_12]
    refine ⟨-2, rfl, ?_⟩
    unfold aEv
    simp only [lv_args, z_v, z_lg, z_h, z_u, z_u1, z_c, z_ct, z_sk, sbne, lst1_d, ldel, lst2_d, ldel2, z_sw, z_rok, zi, eq_self, List.map_cons, List.map_nil, List.append_nil, List.nil_append, List.cons_append, Int32.reduceLT, Int32.reduceLE, Int32.reduceAdd, Int32.reduceSub, Int32.reduceMul, Int32.reduceToInt, Int32.reduceToNatClampNeg, Int.reduceLT, Int.reduceLE, Int.reduceNeg, true_and, and_true, or_self, or_false, false_or, false_and, and_false, true_or, or_true, if_true, if_false, ne_eq, Classical.not_not, not_true_eq_false, not_false_eq_true, true_implies, false_implies, implies_true, Nat.reduceEqDiff, Nat.reduceAdd, Nat.reduceLeDiff, Nat.reduceSub, reduceCtorEq, reduceIte, b290_0, c0]
    simp only [lv_args, z_v, z_lg, z_h, z_u, z_u1, z_c, z_ct, z_sk, sbne, lst1_d, ldel, lst2_d, ldel2, z_sw, z_rok, zi, eq_self, List.map_cons, List.map_nil, List.append_nil, List.nil_append, List.cons_append, Int32.reduceLT, Int32.reduceLE, Int32.reduceAdd, Int32.reduceSub, Int32.reduceMul, Int32.reduceToInt, Int32.reduceToNatClampNeg, Int.reduceLT, Int.reduceLE, Int.reduceNeg, true_and, and_true, or_self, or_false, false_or, false_and, and_false, true_or, or_true, if_true, if_false, ne_eq, Classical.not_not, not_true_eq_false, not_false_eq_true, true_implies, false_implies, implies_true, Nat.reduceEqDiff, Nat.reduceAdd, Nat.reduceLeDiff, Nat.reduceSub, reduceCtorEq, reduceIte, b290_12]
    exact up
  by_cases c1 : z ≤ nI tp
  · -- a text of n signs
    obtain ⟨n, hn, hz⟩ : ∃ n, n ≤ tp ∧ z = nI n := by
      refine ⟨z.toNatClampNeg, ?_, i32_nx c0⟩
      rw [Int32.le_iff_toInt_le, (nI_small (n := tp) (by omega)).1] at c1
      unfold Int32.toNatClampNeg
      omega
    subst hz
    have ht' : ∀ j, ∃ c, c < 256 ∧ (j < tp → hA h 1 j = rb c) := fun j => by
      by_cases cj : j < tp
      · obtain ⟨_, v, ev⟩ := t4 j cj
        obtain ⟨c, c2, ec⟩ := rb_of v
        exact ⟨c, c2, fun _ => ev.trans ec⟩
      · exact ⟨0, by decide, fun w => absurd w cj⟩
    obtain ⟨t, ht⟩ : ∃ t : Nat → Nat, ∀ j, t j < 256 ∧ (j < tp → hA h 1 j = rb (t j)) := ⟨fun j => (ht' j).choose, fun j => (ht' j).choose_spec⟩
    obtain ⟨hp, hq66⟩ := vs_p vs
    obtain ⟨p', hs⟩ : ∃ p', p + p' = 48 := ⟨48 - p, by omega⟩
    obtain ⟨q', hs2⟩ : ∃ q', q + q' = 152 := ⟨152 - q, by omega⟩
    have eq' : 152 - q = q' := by omega
    simp only [lv_args, z_v, z_lg, z_h, z_u, z_u1, z_c, z_ct, z_sk, sbne, lst1_d, ldel, lst2_d, ldel2, z_sw, z_rok, zi, eq_self, List.map_cons, List.map_nil, List.append_nil, List.nil_append, List.cons_append, Int32.reduceLT, Int32.reduceLE, Int32.reduceAdd, Int32.reduceSub, Int32.reduceMul, Int32.reduceToInt, Int32.reduceToNatClampNeg, Int.reduceLT, Int.reduceLE, Int.reduceNeg, true_and, and_true, or_self, or_false, false_or, false_and, and_false, true_or, or_true, if_true, if_false, ne_eq, Classical.not_not, not_true_eq_false, not_false_eq_true, true_implies, false_implies, implies_true, Nat.reduceEqDiff, Nat.reduceAdd, Nat.reduceLeDiff, Nat.reduceSub, reduceCtorEq, reduceIte, b161_0, c0]
    simp only [lv_args, z_v, z_lg, z_h, z_u, z_u1, z_c, z_ct, z_sk, sbne, lst1_d, ldel, lst2_d, ldel2, z_sw, z_rok, zi, eq_self, List.map_cons, List.map_nil, List.append_nil, List.nil_append, List.cons_append, Int32.reduceLT, Int32.reduceLE, Int32.reduceAdd, Int32.reduceSub, Int32.reduceMul, Int32.reduceToInt, Int32.reduceToNatClampNeg, Int.reduceLT, Int.reduceLE, Int.reduceNeg, true_and, and_true, or_self, or_false, false_or, false_and, and_false, true_or, or_true, if_true, if_false, ne_eq, Classical.not_not, not_true_eq_false, not_false_eq_true, true_implies, false_implies, implies_true, Nat.reduceEqDiff, Nat.reduceAdd, Nat.reduceLeDiff, Nat.reduceSub, reduceCtorEq, reduceIte, b161_4, skX s, t2, c1]
    refine sp_bX (t := t) s vy rm vs hs (by omega) (fun j hj => (ht j).2 (by omega)) (fun j => (ht j).1) (by decide) ?_ ?_
    · intro r K mt N stk h1 k' f a1 a2 a3 a4 c1' v1 F1 j1 j2 j3
      have e59 := F1.2 59 (by unfold XBc; omega)
      have e60 := F1.2 60 (by unfold XBc; omega)
      refine ⟨-1, rfl, ?_⟩
      refine sp_refB (q := q') (t := t) (tp := tp) c1'.1 c1'.2.2 (eq' ▸ yy_of v1) t1 hn (by rw [e59.1 (by decide)]; exact t3) (fun j hj => by rw [e60.2.2.2.1, ← (t4 j (by omega)).1]; exact (ht j).2 (by omega)) (fun j => (ht j).1) a1 a2 a3 (by decide) ?_ ?_
      · intro k2 f2' w h2 F2 u1 u2 u3
        have ee : k2 = k' ∧ f2' = f := by
          rcases w with w | ⟨w1, w⟩ <;> rcases a4 with a4 | ⟨a41, a4⟩
          · rw [w] at a4
            injection a4 with a4
            injection a4 with x1 x2
            exact ⟨x1, x2⟩
          · rw [w] at a41; cases a41
          · rw [w1] at a4; cases a4
          · rw [w] at a4
            injection a4 with a4
            injection a4 with x1 x2
            exact ⟨x1, x2⟩
        obtain ⟨rfl, rfl⟩ := ee
        exact ⟨rfl, flt_fin pi po hh J pt rq H c1' v1 F1 hs F2 hs2 j1 u1 (j2.trans u2.symm) (j3.trans u3.symm)⟩
      · intro w1 w2
        rcases a4 with a4 | ⟨_, a4⟩
        · rw [w1] at a4; cases a4
        · rw [w2] at a4; cases a4
    · intro K mt N stk h1 nw0 a1 a2 hf bk0 px c1' v1 F1 j1 j2 j3
      refine sp_bX72 c1' v1 hs px (ps_of bk0 hf).1 (by decide) ?_
      intro h2 x1 x2 x3 x4 x5 x6 v2 y08 y0i y1 y2 y3
      have e59 := F1.2 59 (by unfold XBc; omega)
      have e60 := F1.2 60 (by unfold XBc; omega)
      have g59 := y1 59 (by omega) (by decide)
      have g60 := y1 60 (by omega) (by decide)
      have g2 := y1 2 (by omega) (by decide)
      have rq2 : Rq h2 := by
        have kN : ∀ a, 119 ≤ a → a ≤ 124 → hN h2 a = hN h a := fun a w1 w2 => (y1 a (by omega) (by omega)).2.2.2.trans (F1.2 a (by unfold XBc; omega)).2.2.2.2.2
        unfold Rq at rq ⊢
        rw [kN 119 (by decide) (by decide), kN 120 (by decide) (by decide), kN 121 (by decide) (by decide), kN 122 (by decide) (by decide), kN 123 (by decide) (by decide), kN 124 (by decide) (by decide), g59.1, e59.1 (by decide)]
        exact rq
      refine ⟨0, rfl, ?_⟩
      have E := sp_bM (d := 1399) (h := h2) (t := t) (tp := tp) (n := n) (q' := q') (Q := fun r2 h3 => r2 = some (.int 0) ∧ ∃ nw qv pa bu pm ty, PS (gOf N mt nw) ∧ Cor (gOf N mt nw) qv pm [] ty [] [] [] (dat (gOf N mt nw)) 0 (List.replicate 100 (vof 9 0)) [] [] pa (List.replicate (pDf (gOf N mt nw)) (vof 9 0)) ∧ SM0 (gOf N mt nw) q' qv h3 ∧ RZn (y0 (gOf N mt nw) pa bu) h3 ∧ MXc none 0 h3 ∧ MXp [] [] h3 ∧ (hI h3 59 69 = -1 ∧ hI h3 59 60 = -1 ∧ hL h3 59 63 = 0) ∧ (∀ j, j < 4 → hB h3 129 j = 0) ∧ Vs p' q' h3 ∧ Rq h3 ∧ (hI h3 59 1 = 0 ∧ hI h3 59 2 = 0 ∧ hI h3 59 3 = -1 ∧ hI h3 59 19 = 1)) ⟨x1.1, x1.2.1, x1.2.2.1⟩ rq2 v2 hs2 t1 hn (by rw [g59.1, e59.1 (by decide)]; exact t3) (fun j hj => by rw [g60.2.2.1, e60.2.2.2.1, ← (t4 j (by omega)).1]; exact (ht j).2 (by omega)) (fun j => (ht j).1) a1 a2 hf (by decide) (fun h3 nw qv pa bu pm ty b1 b2 b3 b4 b5 b6 b7 b8 b9 b10 b11 => ⟨rfl, nw, qv, pa, bu, pm, ty, b1, b2, b3, b4, b5, b6, b7, b8, b9, b10, b11⟩)
      have hxS : xS Xm [.ref 59, .int (nI n)] := fun v hv k e => by
        simp only [List.mem_cons, List.not_mem_nil, or_false] at hv
        rcases hv with rfl | rfl
        · injection e with e
          subst e
          exact Nat.le_refl _
        · cases e
      refine aEv_mono (aEv_frame Xm (rg_m x1.1 v2) hxS E) ?_
      rintro r2 h3 ⟨⟨rfl, nw, qv, pa, bu, pm, ty, b1, b2, b3, b4, b5, b6, ⟨b71, b72, b73⟩, b8, b9, b10, ⟨u1, u2, u3, u4⟩⟩, _, sm, _⟩
      refine ⟨rfl, ?_⟩
      obtain ⟨agx, k5⟩ := sm_m sm
      have hp' : p' = 19 ∨ p' = 29 := by omega
      have hp9 : ∀ j, j ≤ 9 → p' + j < 59 := fun j hj => by omega
      have px2 : PX (gOf N mt nw) p' h2 := x1.2.2.2.1
      have rw2 : RWn (z0 (gOf N mt nw)) h2 := x2
      have hz2 : pCz (gOf N mt nw) < 1000000 := x1.2.2.2.2.2
      have r47 : hR h3 47 2 = some p' := by rw [(k5 47 (by decide)).2.2.1]; exact x1.2.2.2.2.1
      have sx2 : SX (gOf N mt nw) p' h3 := ⟨b3.1, b3.2.1, b3.2.2.1, px_same (k5 p' (by omega)).1 (fun j hj => ⟨(k5 _ (hp9 j hj)).2.2.2.1, (k5 _ (hp9 j hj)).2.2.2.2.2, (k5 _ (hp9 j hj)).2.2.2.2.1⟩) px2, r47, hz2⟩
      have rx2 : RXp [] [] h3 := rxp_ag (k5 50 (by decide)).1 ⟨(k5 51 (by decide)).2.2.2.1, (k5 51 (by decide)).2.2.2.2.2⟩ ⟨(k5 52 (by decide)).2.2.2.1, (k5 52 (by decide)).2.2.2.2.2⟩ x4
      obtain ⟨pi', po'⟩ := po_out rx2 b6
      have rm2 := b3.2.2.1
      have k0 := k5 0 (by decide)
      have k2 := k5 2 (by decide)
      have z0' : (0 : Int32) = nI 0 := rfl
      refine ⟨b3.1, ⟨0, by decide, ?_, u1.trans z0', fun j hj => absurd hj (Nat.not_lt_zero _), rm2.1.2 (1, 3000) (by decide), rm2.1.2 (60, 3000) (by decide)⟩, ⟨?_, ?_⟩, pi', po', ?_, ?_⟩
      · rw [k0.1, y0i 1 (by decide), j1]; rfl
      · rw [k2.1, g2.1, j2, u2]
      · rw [k2.1, g2.1, j3, u3]
      · rw [k0.1, y08, u4]
      · exact beg_fin (G := gOf N mt nw) (p := p') (q := q') (pa := pa) (bu := bu) (qv := qv) b1 b2 b9 b10 u4 sx2 (rwn_ag agx rw2) (by rw [(k5 47 (by decide)).1]; exact x3) (by rw [k0.2.1]; exact x5) (fun j hj => by rw [(k5 58 (by decide)).2.2.2.2.1]; exact x6 j hj) b3 b4 b5 b71 b72 b73 b8
  · simp only [lv_args, z_v, z_lg, z_h, z_u, z_u1, z_c, z_ct, z_sk, sbne, lst1_d, ldel, lst2_d, ldel2, z_sw, z_rok, zi, eq_self, List.map_cons, List.map_nil, List.append_nil, List.nil_append, List.cons_append, Int32.reduceLT, Int32.reduceLE, Int32.reduceAdd, Int32.reduceSub, Int32.reduceMul, Int32.reduceToInt, Int32.reduceToNatClampNeg, Int.reduceLT, Int.reduceLE, Int.reduceNeg, true_and, and_true, or_self, or_false, false_or, false_and, and_false, true_or, or_true, if_true, if_false, ne_eq, Classical.not_not, not_true_eq_false, not_false_eq_true, true_implies, false_implies, implies_true, Nat.reduceEqDiff, Nat.reduceAdd, Nat.reduceLeDiff, Nat.reduceSub, reduceCtorEq, reduceIte, b161_0, c0]
    simp only [lv_args, z_v, z_lg, z_h, z_u, z_u1, z_c, z_ct, z_sk, sbne, lst1_d, ldel, lst2_d, ldel2, z_sw, z_rok, zi, eq_self, List.map_cons, List.map_nil, List.append_nil, List.nil_append, List.cons_append, Int32.reduceLT, Int32.reduceLE, Int32.reduceAdd, Int32.reduceSub, Int32.reduceMul, Int32.reduceToInt, Int32.reduceToNatClampNeg, Int.reduceLT, Int.reduceLE, Int.reduceNeg, true_and, and_true, or_self, or_false, false_or, false_and, and_false, true_or, or_true, if_true, if_false, ne_eq, Classical.not_not, not_true_eq_false, not_false_eq_true, true_implies, false_implies, implies_true, Nat.reduceEqDiff, Nat.reduceAdd, Nat.reduceLeDiff, Nat.reduceSub, reduceCtorEq, reduceIte, b161_4, skX s, t2, c1]
    simp only [lv_args, z_v, z_lg, z_h, z_u, z_u1, z_c, z_ct, z_sk, sbne, lst1_d, ldel, lst2_d, ldel2, z_sw, z_rok, zi, eq_self, List.map_cons, List.map_nil, List.append_nil, List.nil_append, List.cons_append, Int32.reduceLT, Int32.reduceLE, Int32.reduceAdd, Int32.reduceSub, Int32.reduceMul, Int32.reduceToInt, Int32.reduceToNatClampNeg, Int.reduceLT, Int.reduceLE, Int.reduceNeg, true_and, and_true, or_self, or_false, false_or, false_and, and_false, true_or, or_true, if_true, if_false, ne_eq, Classical.not_not, not_true_eq_false, not_false_eq_true, true_implies, false_implies, implies_true, Nat.reduceEqDiff, Nat.reduceAdd, Nat.reduceLeDiff, Nat.reduceSub, reduceCtorEq, reduceIte, b161_12]
    refine ⟨-2, rfl, ?_⟩
    unfold aEv
    simp only [lv_args, z_v, z_lg, z_h, z_u, z_u1, z_c, z_ct, z_sk, sbne, lst1_d, ldel, lst2_d, ldel2, z_sw, z_rok, zi, eq_self, List.map_cons, List.map_nil, List.append_nil, List.nil_append, List.cons_append, Int32.reduceLT, Int32.reduceLE, Int32.reduceAdd, Int32.reduceSub, Int32.reduceMul, Int32.reduceToInt, Int32.reduceToNatClampNeg, Int.reduceLT, Int.reduceLE, Int.reduceNeg, true_and, and_true, or_self, or_false, false_or, false_and, and_false, true_or, or_true, if_true, if_false, ne_eq, Classical.not_not, not_true_eq_false, not_false_eq_true, true_implies, false_implies, implies_true, Nat.reduceEqDiff, Nat.reduceAdd, Nat.reduceLeDiff, Nat.reduceSub, reduceCtorEq, reduceIte, b290_0, c0]
    simp only [lv_args, z_v, z_lg, z_h, z_u, z_u1, z_c, z_ct, z_sk, sbne, lst1_d, ldel, lst2_d, ldel2, z_sw, z_rok, zi, eq_self, List.map_cons, List.map_nil, List.append_nil, List.nil_append, List.cons_append, Int32.reduceLT, Int32.reduceLE, Int32.reduceAdd, Int32.reduceSub, Int32.reduceMul, Int32.reduceToInt, Int32.reduceToNatClampNeg, Int.reduceLT, Int.reduceLE, Int.reduceNeg, true_and, and_true, or_self, or_false, false_or, false_and, and_false, true_or, or_true, if_true, if_false, ne_eq, Classical.not_not, not_true_eq_false, not_false_eq_true, true_implies, false_implies, implies_true, Nat.reduceEqDiff, Nat.reduceAdd, Nat.reduceLeDiff, Nat.reduceSub, reduceCtorEq, reduceIte, b290_4, skM s, t3, c1]
    simp only [lv_args, z_v, z_lg, z_h, z_u, z_u1, z_c, z_ct, z_sk, sbne, lst1_d, ldel, lst2_d, ldel2, z_sw, z_rok, zi, eq_self, List.map_cons, List.map_nil, List.append_nil, List.nil_append, List.cons_append, Int32.reduceLT, Int32.reduceLE, Int32.reduceAdd, Int32.reduceSub, Int32.reduceMul, Int32.reduceToInt, Int32.reduceToNatClampNeg, Int.reduceLT, Int.reduceLE, Int.reduceNeg, true_and, and_true, or_self, or_false, false_or, false_and, and_false, true_or, or_true, if_true, if_false, ne_eq, Classical.not_not, not_true_eq_false, not_false_eq_true, true_implies, false_implies, implies_true, Nat.reduceEqDiff, Nat.reduceAdd, Nat.reduceLeDiff, Nat.reduceSub, reduceCtorEq, reduceIte, b290_12]
    exact up
