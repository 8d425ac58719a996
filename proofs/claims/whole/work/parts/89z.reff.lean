/-! list forms in the reference -/
section REF
variable {h h' : Hp} {Q : Option Value → Hp → Prop} {d : Nat} {G : PG} {q : Nat} {qv : Nat → Int64} {r n : Nat} {td : List TD} {z : RSt} {N : Int32} {md : Option Nat} {nw v : Int64} {wk : List Int64} {X : (List Nat × Nat × Option Nat) × (List Int64 × List (Nat × List Nat) × List (Int64 × Int64) × Nat × List Int64) × (List Int32 × List Int32 × Nat × Nat × Nat × Int64 × Nat)}
theorem rm_todo {e : TD} (r : RM G q qv ((md, nw, td, wk), X) h) (S : SM G q qv h') (kk : KMo h h') (t : MXt (e :: td) h') : RM G q qv ((md, nw, e :: td, wk), X) h' := by
  obtain ⟨r1, r2, r3, r4, r5, r6, r7, r8, r9, r10, r11⟩ := r
  obtain ⟨k1, k2, k3, k4, k5, k6, k7, k8, k9⟩ := kk
  exact ⟨S, k1 _ _ r2, t, k2 _ r4, k3 _ _ _ _ _ r5, k4 _ _ _ r6, k5 _ _ r7, k6 _ _ _ _ _ r8, k7.trans r9, k8.trans r10, k9.trans r11.1, r11.2⟩
/-- a list form: its word leads -/
theorem wl_w {n c w t : Nat} {l : List Nat} (S : SM G q qv h) (hn : n < pNn G) (hd : 2 < d) (h4 : G.1 21 n = 4) (hc : Chn G (G.1 24 n) (c :: l)) (hw : Fw G c w) (ht : swL [(1, 60), (2, 78), (3, 86), (4, 106), (5, 120), (6, 128), (7, 148), (8, 161), (9, 161), (10, 128)] (nI w) 189 = t) (hq : aWP (d - 1) 277 t [(0, .ref 59), (1, .int (nI n))] [] h (fun r h1 => r = none ∧ Q none h1)) : aEv d 276 [.ref 59, .int (nI n)] h Q := by
  have h0 : 0 < d := by omega
  have h01 : 0 < d - 1 := by omega
  have s := S.1
  refine wk_kd S hn h0 (t := 112) (by rw [h4]; rfl) ?_
  simp only [lv_args, z_v, z_lg, z_h, z_u, z_u1, z_c, z_ct, z_sk, sbne, lst1_d, ldel, lst2_d, ldel2, z_sw, z_rok, zi, eq_self, List.map_cons, List.map_nil, List.append_nil, List.nil_append, List.cons_append, Int32.reduceLT, Int32.reduceLE, Int32.reduceAdd, Int32.reduceSub, Int32.reduceMul, Int32.reduceToInt, Int32.reduceToNatClampNeg, Int.reduceLT, Int.reduceLE, Int.reduceNeg, true_and, and_true, or_self, or_false, false_or, false_and, and_false, true_or, or_true, if_true, if_false, ne_eq, Classical.not_not, not_true_eq_false, not_false_eq_true, true_implies, false_implies, implies_true, Nat.reduceEqDiff, Nat.reduceAdd, Nat.reduceLeDiff, Nat.reduceSub, reduceCtorEq, reduceIte, b276_112, skM s, h0]
  have main : aEv (d - 1) 277 [.ref 59, .int (nI n)] h (fun r h1 => r = none ∧ Q none h1) := by
    unfold aEv
    simp only [lv_args, z_v, z_lg, z_h, z_u, z_u1, z_c, z_ct, z_sk, sbne, lst1_d, ldel, lst2_d, ldel2, z_rok, zi, eq_self, List.map_cons, List.map_nil, List.append_nil, List.nil_append, List.cons_append, Int32.reduceLT, Int32.reduceLE, Int32.reduceAdd, Int32.reduceSub, Int32.reduceMul, Int32.reduceToInt, Int32.reduceToNatClampNeg, Int.reduceLT, Int.reduceLE, Int.reduceNeg, true_and, and_true, or_self, or_false, false_or, false_and, and_false, true_or, or_true, if_true, if_false, ne_eq, Classical.not_not, not_true_eq_false, not_false_eq_true, true_implies, false_implies, implies_true, Nat.reduceEqDiff, Nat.reduceAdd, Nat.reduceLeDiff, Nat.reduceSub, reduceCtorEq, reduceIte, b277_0, skM s, h01]
    refine sp_fw S hn hc hw ?_
    simp only [lv_args, z_v, z_lg, z_h, z_u, z_u1, z_c, z_ct, z_sk, sbne, lst1_d, ldel, lst2_d, ldel2, z_rok, zi, eq_self, List.map_cons, List.map_nil, List.append_nil, List.nil_append, List.cons_append, Int32.reduceLT, Int32.reduceLE, Int32.reduceAdd, Int32.reduceSub, Int32.reduceMul, Int32.reduceToInt, Int32.reduceToNatClampNeg, Int.reduceLT, Int.reduceLE, Int.reduceNeg, true_and, and_true, or_self, or_false, false_or, false_and, and_false, true_or, or_true, if_true, if_false, ne_eq, Classical.not_not, not_true_eq_false, not_false_eq_true, true_implies, false_implies, implies_true, Nat.reduceEqDiff, Nat.reduceAdd, Nat.reduceLeDiff, Nat.reduceSub, reduceCtorEq, reduceIte, b277_0, skM s]
    refine sw_at ?_
    rw [ht]
    exact hq
  refine aEv_mono main ?_
  rintro r h1 ⟨rfl, p⟩
  simp only [lv_args, z_v, z_lg, z_h, z_u, z_u1, z_c, z_ct, z_sk, sbne, lst1_d, ldel, lst2_d, ldel2, z_sw, z_rok, zi, eq_self, List.map_cons, List.map_nil, List.append_nil, List.nil_append, List.cons_append, Int32.reduceLT, Int32.reduceLE, Int32.reduceAdd, Int32.reduceSub, Int32.reduceMul, Int32.reduceToInt, Int32.reduceToNatClampNeg, Int.reduceLT, Int.reduceLE, Int.reduceNeg, true_and, and_true, or_self, or_false, false_or, false_and, and_false, true_or, or_true, if_true, if_false, ne_eq, Classical.not_not, not_true_eq_false, not_false_eq_true, true_implies, false_implies, implies_true, Nat.reduceEqDiff, Nat.reduceAdd, Nat.reduceLeDiff, Nat.reduceSub, reduceCtorEq, reduceIte, b276_112, skM s, Nat.reduceLT]
  exact p
theorem ls_go {n : Nat} (r : RM G q qv ((some n, nw, td, wk), X) h) (hd : 1 < d) (hq : aEv (d - 1) 276 [.ref 59, .int (nI n)] h (PR d N Q)) : aWP d 257 35 (LR N) [] h Q := by
  obtain ⟨r1, ⟨_, r2⟩, r3, r4, r5, r6, r7, r8, r9, r10, r11⟩ := r
  rcases r2 with ⟨n', e1, e2, e3⟩ | ⟨e1, _⟩
  · injection e1 with e1
    subst e1
    refine rl_F r1.1 hd r10 r11.1 e2 ?_
    rw [e3]
    exact hq
  · cases e1
theorem rs_2 {y y' : RSt} (hr : RS1 G qv 2 y y') (r : RM G q qv y h) (hd : 10 < d) (hq : ∀ h', RM G q qv y' h' → aWP d 257 35 (LR N) [] h' Q) : aWP d 257 35 (LR N) [] h Q := by
  obtain ⟨⟨md, nw, td, wk⟩, X⟩ := y
  cases md with
  | none => exact hr.elim
  | some n =>
    obtain ⟨hn, h4, c, a, hc, hw, rfl⟩ := hr
    have S := r.1
    have s := S.1
    have h0 : 0 < d - 1 - 1 := by omega
    have z1 : (1 : Int32) = nI 1 := rfl
    have ha : a < pNn G := hc.2.2.2.1
    have pn := S.2.2.2.1.2.2.1
    have q1 := S.2.2.2.2.2.1
    have q2 := S.2.2.2.2.2.2.1 a ha
    refine ls_go r (by omega) (wl_w S hn (by omega) h4 hc hw (t := 60) rfl ?_)
    simp only [lv_args, z_v, z_lg, z_h, z_u, z_u1, z_c, z_ct, z_sk, sbne, lst1_d, ldel, lst2_d, ldel2, z_sw, z_rok, zi, eq_self, List.map_cons, List.map_nil, List.append_nil, List.nil_append, List.cons_append, Int32.reduceLT, Int32.reduceLE, Int32.reduceAdd, Int32.reduceSub, Int32.reduceMul, Int32.reduceToInt, Int32.reduceToNatClampNeg, Int.reduceLT, Int.reduceLE, Int.reduceNeg, true_and, and_true, or_self, or_false, false_or, false_and, and_false, true_or, or_true, if_true, if_false, ne_eq, Classical.not_not, not_true_eq_false, not_false_eq_true, true_implies, false_implies, implies_true, Nat.reduceEqDiff, Nat.reduceAdd, Nat.reduceLeDiff, Nat.reduceSub, reduceCtorEq, reduceIte, b277_60, skM s, srM s, h0, z1]
    refine sp_part S hn hc (m := a) rfl (by decide) ?_
    simp only [lv_args, z_v, z_lg, z_h, z_u, z_u1, z_c, z_ct, z_sk, sbne, lst1_d, ldel, lst2_d, ldel2, z_sw, z_rok, zi, eq_self, List.map_cons, List.map_nil, List.append_nil, List.nil_append, List.cons_append, Int32.reduceLT, Int32.reduceLE, Int32.reduceAdd, Int32.reduceSub, Int32.reduceMul, Int32.reduceToInt, Int32.reduceToNatClampNeg, Int.reduceLT, Int.reduceLE, Int.reduceNeg, true_and, and_true, or_self, or_false, false_or, false_and, and_false, true_or, or_true, if_true, if_false, ne_eq, Classical.not_not, not_true_eq_false, not_false_eq_true, true_implies, false_implies, implies_true, Nat.reduceEqDiff, Nat.reduceAdd, Nat.reduceLeDiff, Nat.reduceSub, reduceCtorEq, reduceIte, b277_60, skM s, srM s, h0]
    simp (disch := omega) only [nI_ti, nI_cl, le0N, ltNN, q1, q2, true_and]
    refine ⟨by omega, ?_⟩
    try simp only [lv_args, z_v, z_lg, z_h, z_u, z_u1, z_c, z_ct, z_sk, sbne, lst1_d, ldel, lst2_d, ldel2, z_sw, z_rok, zi, eq_self, List.map_cons, List.map_nil, List.append_nil, List.nil_append, List.cons_append, Int32.reduceLT, Int32.reduceLE, Int32.reduceAdd, Int32.reduceSub, Int32.reduceMul, Int32.reduceToInt, Int32.reduceToNatClampNeg, Int.reduceLT, Int.reduceLE, Int.reduceNeg, true_and, and_true, or_self, or_false, false_or, false_and, and_false, true_or, or_true, if_true, if_false, ne_eq, Classical.not_not, not_true_eq_false, not_false_eq_true, true_implies, false_implies, implies_true, Nat.reduceEqDiff, Nat.reduceAdd, Nat.reduceLeDiff, Nat.reduceSub, reduceCtorEq, reduceIte, b277_60, b277_218, skM s, h0, e219_59 _ _ s]
    exact pr_ok (rm_is r) hq
/-- an entry of the todo list, then a part of the form -/
theorem rs_4 {y y' : RSt} (hr : RS1 G qv 4 y y') (r : RM G q qv y h) (hb : Bnd y) (hd : 20 < d) (hq : ∀ h', RM G q qv y' h' → aWP d 257 35 (LR N) [] h' Q) : aWP d 257 35 (LR N) [] h Q := by
  obtain ⟨⟨md, nw, td, wk⟩, X⟩ := y
  cases md with
  | none => exact hr.elim
  | some n =>
    obtain ⟨hn, h4, c, a, b, e, hc, hw, rfl⟩ := hr
    have S := r.1
    have s := S.1
    have h0 : 0 < d - 1 - 1 := by omega
    have hb1 : td.length ≤ 44000 := hb.1
    refine ls_go r (by omega) (wl_w S hn (by omega) h4 hc hw (t := 86) rfl ?_)
    simp only [lv_args, z_v, z_lg, z_h, z_u, z_u1, z_c, z_ct, z_sk, sbne, lst1_d, ldel, lst2_d, ldel2, z_sw, z_rok, zi, eq_self, List.map_cons, List.map_nil, List.append_nil, List.nil_append, List.cons_append, Int32.reduceLT, Int32.reduceLE, Int32.reduceAdd, Int32.reduceSub, Int32.reduceMul, Int32.reduceToInt, Int32.reduceToNatClampNeg, Int.reduceLT, Int.reduceLE, Int.reduceNeg, true_and, and_true, or_self, or_false, false_or, false_and, and_false, true_or, or_true, if_true, if_false, ne_eq, Classical.not_not, not_true_eq_false, not_false_eq_true, true_implies, false_implies, implies_true, Nat.reduceEqDiff, Nat.reduceAdd, Nat.reduceLeDiff, Nat.reduceSub, reduceCtorEq, reduceIte, b277_86, skM s, h0]
    refine sp_todo (k := 1) S (by omega) r.2.2.1 (by show td.length ≤ 44990; omega) (by decide) fun h' S' kk t' => ?_
    have r' := rm_todo r S' kk t'
    have s' := S'.1
    simp only [lv_args, z_v, z_lg, z_h, z_u, z_u1, z_c, z_ct, z_sk, sbne, lst1_d, ldel, lst2_d, ldel2, z_sw, z_rok, zi, eq_self, List.map_cons, List.map_nil, List.append_nil, List.nil_append, List.cons_append, Int32.reduceLT, Int32.reduceLE, Int32.reduceAdd, Int32.reduceSub, Int32.reduceMul, Int32.reduceToInt, Int32.reduceToNatClampNeg, Int.reduceLT, Int.reduceLE, Int.reduceNeg, true_and, and_true, or_self, or_false, false_or, false_and, and_false, true_or, or_true, if_true, if_false, ne_eq, Classical.not_not, not_true_eq_false, not_false_eq_true, true_implies, false_implies, implies_true, Nat.reduceEqDiff, Nat.reduceAdd, Nat.reduceLeDiff, Nat.reduceSub, reduceCtorEq, reduceIte, b277_86, skM s, skM s', h0, Nat.reduceLT]
    refine sp_part S' hn hc (i := 1) (m := a) rfl (by decide) ?_
    simp only [lv_args, z_v, z_lg, z_h, z_u, z_u1, z_c, z_ct, z_sk, sbne, lst1_d, ldel, lst2_d, ldel2, z_sw, z_rok, zi, eq_self, List.map_cons, List.map_nil, List.append_nil, List.nil_append, List.cons_append, Int32.reduceLT, Int32.reduceLE, Int32.reduceAdd, Int32.reduceSub, Int32.reduceMul, Int32.reduceToInt, Int32.reduceToNatClampNeg, Int.reduceLT, Int.reduceLE, Int.reduceNeg, true_and, and_true, or_self, or_false, false_or, false_and, and_false, true_or, or_true, if_true, if_false, ne_eq, Classical.not_not, not_true_eq_false, not_false_eq_true, true_implies, false_implies, implies_true, Nat.reduceEqDiff, Nat.reduceAdd, Nat.reduceLeDiff, Nat.reduceSub, reduceCtorEq, reduceIte, b277_86, b277_218, skM s', h0, e206_59 _ _ s']
    exact pr_ok (rm_form r') hq
theorem rs_9 {y y' : RSt} (hr : RS1 G qv 9 y y') (r : RM G q qv y h) (hb : Bnd y) (hd : 20 < d) (hq : ∀ h', RM G q qv y' h' → aWP d 257 35 (LR N) [] h' Q) : aWP d 257 35 (LR N) [] h Q := by
  obtain ⟨⟨md, nw, td, wk⟩, X⟩ := y
  cases md with
  | none => exact hr.elim
  | some n =>
    obtain ⟨hn, h4, c, a, v, w, hc, hw, hw2, rfl⟩ := hr
    have S := r.1
    have s := S.1
    have h0 : 0 < d - 1 - 1 := by omega
    have hb1 : td.length ≤ 44000 := hb.1
    refine ls_go r (by omega) (wl_w S hn (by omega) h4 hc hw (t := 128) (by rcases hw2 with rfl | rfl <;> rfl) ?_)
    simp only [lv_args, z_v, z_lg, z_h, z_u, z_u1, z_c, z_ct, z_sk, sbne, lst1_d, ldel, lst2_d, ldel2, z_sw, z_rok, zi, eq_self, List.map_cons, List.map_nil, List.append_nil, List.nil_append, List.cons_append, Int32.reduceLT, Int32.reduceLE, Int32.reduceAdd, Int32.reduceSub, Int32.reduceMul, Int32.reduceToInt, Int32.reduceToNatClampNeg, Int.reduceLT, Int.reduceLE, Int.reduceNeg, true_and, and_true, or_self, or_false, false_or, false_and, and_false, true_or, or_true, if_true, if_false, ne_eq, Classical.not_not, not_true_eq_false, not_false_eq_true, true_implies, false_implies, implies_true, Nat.reduceEqDiff, Nat.reduceAdd, Nat.reduceLeDiff, Nat.reduceSub, reduceCtorEq, reduceIte, b277_128, skM s, h0]
    refine sp_todo (k := 4) S (by omega) r.2.2.1 (by show td.length ≤ 44990; omega) (by decide) fun h' S' kk t' => ?_
    have r' := rm_todo r S' kk t'
    have s' := S'.1
    simp only [lv_args, z_v, z_lg, z_h, z_u, z_u1, z_c, z_ct, z_sk, sbne, lst1_d, ldel, lst2_d, ldel2, z_sw, z_rok, zi, eq_self, List.map_cons, List.map_nil, List.append_nil, List.nil_append, List.cons_append, Int32.reduceLT, Int32.reduceLE, Int32.reduceAdd, Int32.reduceSub, Int32.reduceMul, Int32.reduceToInt, Int32.reduceToNatClampNeg, Int.reduceLT, Int.reduceLE, Int.reduceNeg, true_and, and_true, or_self, or_false, false_or, false_and, and_false, true_or, or_true, if_true, if_false, ne_eq, Classical.not_not, not_true_eq_false, not_false_eq_true, true_implies, false_implies, implies_true, Nat.reduceEqDiff, Nat.reduceAdd, Nat.reduceLeDiff, Nat.reduceSub, reduceCtorEq, reduceIte, b277_128, skM s, skM s', h0, Nat.reduceLT]
    refine sp_part S' hn hc (i := 2) (m := v) rfl (by decide) ?_
    simp only [lv_args, z_v, z_lg, z_h, z_u, z_u1, z_c, z_ct, z_sk, sbne, lst1_d, ldel, lst2_d, ldel2, z_sw, z_rok, zi, eq_self, List.map_cons, List.map_nil, List.append_nil, List.nil_append, List.cons_append, Int32.reduceLT, Int32.reduceLE, Int32.reduceAdd, Int32.reduceSub, Int32.reduceMul, Int32.reduceToInt, Int32.reduceToNatClampNeg, Int.reduceLT, Int.reduceLE, Int.reduceNeg, true_and, and_true, or_self, or_false, false_or, false_and, and_false, true_or, or_true, if_true, if_false, ne_eq, Classical.not_not, not_true_eq_false, not_false_eq_true, true_implies, false_implies, implies_true, Nat.reduceEqDiff, Nat.reduceAdd, Nat.reduceLeDiff, Nat.reduceSub, reduceCtorEq, reduceIte, b277_128, b277_218, skM s', h0, e206_59 _ _ s']
    exact pr_ok (rm_form r') hq
theorem rs_11 {y y' : RSt} (hr : RS1 G qv 11 y y') (r : RM G q qv y h) (hb : Bnd y) (hd : 20 < d) (hq : ∀ h', RM G q qv y' h' → aWP d 257 35 (LR N) [] h' Q) : aWP d 257 35 (LR N) [] h Q := by
  obtain ⟨⟨md, nw, td, wk⟩, X⟩ := y
  cases md with
  | none => exact hr.elim
  | some n =>
    obtain ⟨hn, h4, c, l, hc, hw, rfl⟩ := hr
    have S := r.1
    have s := S.1
    have h0 : 0 < d - 1 - 1 := by omega
    have hb1 : td.length ≤ 44000 := hb.1
    have P := S.2.2.2.1
    have r17 := S.2.2.2.2.1
    obtain ⟨⟨k0, k1, k2, k4, k5, _⟩, w7, w8, w10, w11, _⟩ := prf s P.1
    obtain ⟨p1, p2, p3⟩ := pm_n P (j := 4) (by decide) (by decide) hn
    have p2 : hA h (q + 4) n = nI c := p2.trans hc.1
    refine ls_go r (by omega) (wl_w S hn (by omega) h4 hc hw (t := 189) rfl ?_)
    simp only [lv_args, z_v, z_lg, z_h, z_u, z_u1, z_c, z_ct, z_sk, sbne, lst1_d, ldel, lst2_d, ldel2, z_sw, z_rok, zi, eq_self, List.map_cons, List.map_nil, List.append_nil, List.nil_append, List.cons_append, Int32.reduceLT, Int32.reduceLE, Int32.reduceAdd, Int32.reduceSub, Int32.reduceMul, Int32.reduceToInt, Int32.reduceToNatClampNeg, Int.reduceLT, Int.reduceLE, Int.reduceNeg, true_and, and_true, or_self, or_false, false_or, false_and, and_false, true_or, or_true, if_true, if_false, ne_eq, Classical.not_not, not_true_eq_false, not_false_eq_true, true_implies, false_implies, implies_true, Nat.reduceEqDiff, Nat.reduceAdd, Nat.reduceLeDiff, Nat.reduceSub, reduceCtorEq, reduceIte, b277_189, skM s, h0, r17, k0, w10, k4]
    simp (disch := omega) only [nI_ti, nI_cl, le0N, ltNN, p1, p2, true_and]
    refine ⟨p3, ?_⟩
    try simp only [lv_args, z_v, z_lg, z_h, z_u, z_u1, z_c, z_ct, z_sk, sbne, lst1_d, ldel, lst2_d, ldel2, z_sw, z_rok, zi, eq_self, List.map_cons, List.map_nil, List.append_nil, List.nil_append, List.cons_append, Int32.reduceLT, Int32.reduceLE, Int32.reduceAdd, Int32.reduceSub, Int32.reduceMul, Int32.reduceToInt, Int32.reduceToNatClampNeg, Int.reduceLT, Int.reduceLE, Int.reduceNeg, true_and, and_true, or_self, or_false, false_or, false_and, and_false, true_or, or_true, if_true, if_false, ne_eq, Classical.not_not, not_true_eq_false, not_false_eq_true, true_implies, false_implies, implies_true, Nat.reduceEqDiff, Nat.reduceAdd, Nat.reduceLeDiff, Nat.reduceSub, reduceCtorEq, reduceIte, b277_189, skM s, h0]
    refine sp_todo (k := 7) S (by omega) r.2.2.1 (by show td.length ≤ 44990; omega) (by decide) fun h' S' kk t' => ?_
    have r' := rm_todo r S' kk t'
    have s' := S'.1
    have P' := S'.2.2.2.1
    have r17' := S'.2.2.2.2.1
    obtain ⟨⟨j0, j1, j2, j4, j5, _⟩, x7, x8, x10, x11, _⟩ := prf s' P'.1
    obtain ⟨o1, o2, o3⟩ := pm_n P' (j := 4) (by decide) (by decide) hn
    have o2 : hA h' (q + 4) n = nI c := o2.trans hc.1
    simp only [lv_args, z_v, z_lg, z_h, z_u, z_u1, z_c, z_ct, z_sk, sbne, lst1_d, ldel, lst2_d, ldel2, z_sw, z_rok, zi, eq_self, List.map_cons, List.map_nil, List.append_nil, List.nil_append, List.cons_append, Int32.reduceLT, Int32.reduceLE, Int32.reduceAdd, Int32.reduceSub, Int32.reduceMul, Int32.reduceToInt, Int32.reduceToNatClampNeg, Int.reduceLT, Int.reduceLE, Int.reduceNeg, true_and, and_true, or_self, or_false, false_or, false_and, and_false, true_or, or_true, if_true, if_false, ne_eq, Classical.not_not, not_true_eq_false, not_false_eq_true, true_implies, false_implies, implies_true, Nat.reduceEqDiff, Nat.reduceAdd, Nat.reduceLeDiff, Nat.reduceSub, reduceCtorEq, reduceIte, b277_189, skM s, skM s', h0, Nat.reduceLT, r17', j0, x10, j4]
    simp (disch := omega) only [nI_ti, nI_cl, le0N, ltNN, o1, o2, true_and]
    refine ⟨o3, ?_⟩
    try simp only [lv_args, z_v, z_lg, z_h, z_u, z_u1, z_c, z_ct, z_sk, sbne, lst1_d, ldel, lst2_d, ldel2, z_sw, z_rok, zi, eq_self, List.map_cons, List.map_nil, List.append_nil, List.nil_append, List.cons_append, Int32.reduceLT, Int32.reduceLE, Int32.reduceAdd, Int32.reduceSub, Int32.reduceMul, Int32.reduceToInt, Int32.reduceToNatClampNeg, Int.reduceLT, Int.reduceLE, Int.reduceNeg, true_and, and_true, or_self, or_false, false_or, false_and, and_false, true_or, or_true, if_true, if_false, ne_eq, Classical.not_not, not_true_eq_false, not_false_eq_true, true_implies, false_implies, implies_true, Nat.reduceEqDiff, Nat.reduceAdd, Nat.reduceLeDiff, Nat.reduceSub, reduceCtorEq, reduceIte, b277_189, b277_218, skM s', h0, e206_59 _ _ s']
    exact pr_ok (rm_form r') hq
end REF
