/-! the reference's run ends, or is held up -/
def RZ (G : PG) (q : Nat) (qv : Nat → Int64) (z : RSt) (h : Hp) : Prop := SM G q qv h ∧ MXt z.1.2.2.1 h ∧ MXw z.1.2.2.2 h ∧ MXb z.2.1.1 z.2.1.2.1 z.2.1.2.2 z.2.2.1.1 z.2.2.1.2.1 h ∧ MXs z.2.2.1.2.2.1 z.2.2.1.2.2.2.1 z.2.2.1.2.2.2.2 h ∧ MXp z.2.2.2.1 z.2.2.2.2.1 h ∧ MXd z.2.2.2.2.2.1 z.2.2.2.2.2.2.1 z.2.2.2.2.2.2.2.1 z.2.2.2.2.2.2.2.2.1 z.2.2.2.2.2.2.2.2.2 h ∧ z.2.2.1.2.1.length + (kfl z.2.2.1.2.1).length ≤ z.2.2.1.2.2.2.1
/-- the run has ended (r = 0, r from 11 on) or is held up (r = 1, 2, 3) -/
def RO (G : PG) (q : Nat) (qv : Nat → Int64) (r : Nat) (z : RSt) (h : Hp) : Prop := RZ G q qv z h ∧ ((hI h 59 69 = nI r ∧ (r = 0 ∨ (11 ≤ r ∧ r ≤ 17))) ∨ (hI h 59 69 = -1 ∧ hI h 59 71 = nI r ∧ 1 ≤ r ∧ r < 4 ∧ MXc z.1.1 z.1.2.1 h))
section REZ
variable {h h' : Hp} {Q : Option Value → Hp → Prop} {d : Nat} {G : PG} {q : Nat} {qv : Nat → Int64} {N : Int32} {f i : Nat} {g x y v : Int64} {md : Option Nat} {nw : Int64} {td : List TD} {wk wk' xs : List Int64} {e : List Nat × Nat × Option Nat} {bx : List Int64} {ps : List (Nat × List Nat)} {pa : List (Int64 × Int64)} {ce : Nat} {gr : List Int64} {inp out : List Int32} {P : Nat × Nat × Nat × Int64 × Nat} {X : (List Nat × Nat × Option Nat) × (List Int64 × List (Nat × List Nat) × List (Int64 × Int64) × Nat × List Int64) × (List Int32 × List Int32 × Nat × Nat × Nat × Int64 × Nat)}
theorem pr_go {h1 : Hp} (s : Sk h1) (e : hI h1 59 68 = 0) (hq : aWP d 257 35 (LR N) [] h1 Q) : PR d N Q none h1 := by
  refine ⟨rfl, s, fun _ => hq, fun e' p1 p2 p3 => ?_, Or.inl e⟩
  rw [e] at p3
  have := nI_inj (a := 0) (b := e') (by omega) (by omega) p3
  omega
theorem ro_er {n : Nat} {md' : Option Nat} {nw' : Int64} (r : RM G q qv ((md, nw, td, wk), X) h) (h1 : 0 < n) (h2 : n < 8) : RO G q qv (10 + n) ((md', nw', td, wk), X) (hEr h n) := by
  obtain ⟨a1, a2, a3, a4, a5, a6, a7, a8, a9, a10, a11, a12⟩ := r
  exact ⟨⟨sm_I (sm_I a1), a3, a4, a5, a6, a7, a8, a12⟩, Or.inl ⟨rfl, by omega⟩⟩
theorem pr_eo {n : Nat} {md' : Option Nat} {nw' : Int64} (r : RM G q qv ((md, nw, td, wk), X) h) (h1 : 0 < n) (h2 : n < 8) (hq : ∀ h', RO G q qv (10 + n) ((md', nw', td, wk), X) h' → aWP d 257 35 (LR N) [] h' Q) : PR d N Q none (pI h 59 68 (nI n)) :=
  pr_er ((sk_same rfl rfl rfl : Sk _ = Sk h) ▸ r.1.1) h1 h2 rfl (hq _ (ro_er r h1 h2))
theorem sp_holds {w : Nat} (r : RM G q qv ((md, nw, td, wk), X) h) (hb : td.length ≤ 44990) (hd : 10 < d) (hw : 1 ≤ w) (hw2 : w < 4) (hq : ∀ h', RO G q qv w ((none, 0, (10, nI i, 0) :: td, wk), X) h' → hI h' 59 68 = 0 → Q none h') : aEv d 215 [.ref 59, .int (nI w), .int (nI i)] h Q := by
  have s := r.1.1
  have h0 : 0 < d := by omega
  obtain ⟨a1, a2, a3, a4, a5, a6, a7, a8, a9, a10, a11, a12⟩ := r
  unfold aEv
  simp only [lv_args, z_v, z_lg, z_h, z_u, z_u1, z_c, z_ct, z_sk, sbne, lst1_d, ldel, lst2_d, ldel2, z_sw, z_rok, zi, eq_self, List.map_cons, List.map_nil, List.append_nil, List.nil_append, List.cons_append, Int32.reduceLT, Int32.reduceLE, Int32.reduceAdd, Int32.reduceSub, Int32.reduceMul, Int32.reduceToInt, Int32.reduceToNatClampNeg, Int.reduceLT, Int.reduceLE, Int.reduceNeg, true_and, and_true, or_self, or_false, false_or, false_and, and_false, true_or, or_true, if_true, if_false, ne_eq, Classical.not_not, not_true_eq_false, not_false_eq_true, true_implies, false_implies, implies_true, Nat.reduceEqDiff, Nat.reduceAdd, Nat.reduceLeDiff, Nat.reduceSub, reduceCtorEq, reduceIte, b215_0, skM s, h0]
  refine sp_todo (k := 10) (h := pI h 59 71 (nI w)) (sm_I a1) (by omega) a3 hb (by decide) fun h1 S1 kk t1 => ?_
  have s1 := S1.1
  simp only [lv_args, z_v, z_lg, z_h, z_u, z_u1, z_c, z_ct, z_sk, sbne, lst1_d, ldel, lst2_d, ldel2, z_sw, z_rok, zi, eq_self, List.map_cons, List.map_nil, List.append_nil, List.nil_append, List.cons_append, Int32.reduceLT, Int32.reduceLE, Int32.reduceAdd, Int32.reduceSub, Int32.reduceMul, Int32.reduceToInt, Int32.reduceToNatClampNeg, Int.reduceLT, Int.reduceLE, Int.reduceNeg, true_and, and_true, or_self, or_false, false_or, false_and, and_false, true_or, or_true, if_true, if_false, ne_eq, Classical.not_not, not_true_eq_false, not_false_eq_true, true_implies, false_implies, implies_true, Nat.reduceEqDiff, Nat.reduceAdd, Nat.reduceLeDiff, Nat.reduceSub, reduceCtorEq, reduceIte, b215_0, skM s, skM s1, h0, Nat.reduceLT, e219_59 _ _ s1]
  refine hq _ ⟨⟨sm_I (sm_L S1), t1, kk.2.1 _ a4, kk.2.2.1 _ _ _ _ _ a5, kk.2.2.2.1 _ _ _ a6, kk.2.2.2.2.1 _ _ a7, ?_, a12⟩, Or.inr ⟨?_, ?_, hw, hw2, rfl, Or.inr ⟨rfl, rfl⟩⟩⟩ ?_
  · exact kk.2.2.2.2.2.1 _ _ _ _ _ a8
  · exact kk.2.2.2.2.2.2.2.1.trans a10
  · exact kk.2.2.2.2.2.2.2.2.trans rfl
  · exact kk.2.2.2.2.2.2.1.trans a9
theorem re_0 {y z : RSt} {r0 : Nat} (hr : RE1 G 0 y r0 z) (r : RM G q qv y h) (hd : 20 < d) (hq : ∀ h', RO G q qv r0 z h' → aWP d 257 35 (LR N) [] h' Q) : aWP d 257 35 (LR N) [] h Q := by
  obtain ⟨⟨md, nw, td0, wk⟩, e, S0, ⟨inp, out, th, op, st, lt, bu⟩⟩ := y
  match md, td0, hr with
  | none, (9, n, m) :: td, hr =>
    obtain ⟨rfl, rfl, hz⟩ := hr
    have r' := rm_pop r
    have s := r.1.1
    have h0 : 0 < d - 1 := by omega
    have enw : hL h 59 65 = nw := r.2.1.1
    have n01 : ¬ (0 : Int32) = 1 := by decide
    have e58 : hI h 59 58 = nI th := r.2.2.2.2.2.2.2.1.1
    obtain ⟨a1, a2, a3, a4, a5, a6, a7, ⟨d1, d2, d3, d4, d5, d6, d7⟩, a9, a10, a11, a12⟩ := r'
    refine vl_go r (by omega) (t := 92) rfl ?_
    simp only [lv_args, z_v, z_lg, z_h, z_u, z_u1, z_c, z_ct, z_sk, sbne, lst1_d, ldel, lst2_d, ldel2, z_sw, z_rok, zi, eq_self, List.map_cons, List.map_nil, List.append_nil, List.nil_append, List.cons_append, Int32.reduceLT, Int32.reduceLE, Int32.reduceAdd, Int32.reduceSub, Int32.reduceMul, Int32.reduceToInt, Int32.reduceToNatClampNeg, Int.reduceLT, Int.reduceLE, Int.reduceNeg, true_and, and_true, or_self, or_false, false_or, false_and, and_false, true_or, or_true, if_true, if_false, ne_eq, Classical.not_not, not_true_eq_false, not_false_eq_true, true_implies, false_implies, implies_true, Nat.reduceEqDiff, Nat.reduceAdd, Nat.reduceLeDiff, Nat.reduceSub, reduceCtorEq, reduceIte, b213_92, skM s, h0]
    unfold aEv
    rcases hz with ⟨rfl, rfl⟩ | ⟨rfl, rfl⟩
    · simp only [lv_args, z_v, z_lg, z_h, z_u, z_u1, z_c, z_ct, z_sk, sbne, lst1_d, ldel, lst2_d, ldel2, z_sw, z_rok, zi, eq_self, List.map_cons, List.map_nil, List.append_nil, List.nil_append, List.cons_append, Int32.reduceLT, Int32.reduceLE, Int32.reduceAdd, Int32.reduceSub, Int32.reduceMul, Int32.reduceToInt, Int32.reduceToNatClampNeg, Int.reduceLT, Int.reduceLE, Int.reduceNeg, true_and, and_true, or_self, or_false, false_or, false_and, and_false, true_or, or_true, if_true, if_false, ne_eq, Classical.not_not, not_true_eq_false, not_false_eq_true, true_implies, false_implies, implies_true, Nat.reduceEqDiff, Nat.reduceAdd, Nat.reduceLeDiff, Nat.reduceSub, reduceCtorEq, reduceIte, b255_0, n01]
      simp only [lv_args, z_v, z_lg, z_h, z_u, z_u1, z_c, z_ct, z_sk, sbne, lst1_d, ldel, lst2_d, ldel2, z_sw, z_rok, zi, eq_self, List.map_cons, List.map_nil, List.append_nil, List.nil_append, List.cons_append, Int32.reduceLT, Int32.reduceLE, Int32.reduceAdd, Int32.reduceSub, Int32.reduceMul, Int32.reduceToInt, Int32.reduceToNatClampNeg, Int.reduceLT, Int.reduceLE, Int.reduceNeg, true_and, and_true, or_self, or_false, false_or, false_and, and_false, true_or, or_true, if_true, if_false, ne_eq, Classical.not_not, not_true_eq_false, not_false_eq_true, true_implies, false_implies, implies_true, Nat.reduceEqDiff, Nat.reduceAdd, Nat.reduceLeDiff, Nat.reduceSub, reduceCtorEq, reduceIte, b255_23]
      simp only [lv_args, z_v, z_lg, z_h, z_u, z_u1, z_c, z_ct, z_sk, sbne, lst1_d, ldel, lst2_d, ldel2, z_sw, z_rok, zi, eq_self, List.map_cons, List.map_nil, List.append_nil, List.nil_append, List.cons_append, Int32.reduceLT, Int32.reduceLE, Int32.reduceAdd, Int32.reduceSub, Int32.reduceMul, Int32.reduceToInt, Int32.reduceToNatClampNeg, Int.reduceLT, Int.reduceLE, Int.reduceNeg, true_and, and_true, or_self, or_false, false_or, false_and, and_false, true_or, or_true, if_true, if_false, ne_eq, Classical.not_not, not_true_eq_false, not_false_eq_true, true_implies, false_implies, implies_true, Nat.reduceEqDiff, Nat.reduceAdd, Nat.reduceLeDiff, Nat.reduceSub, reduceCtorEq, reduceIte, b255_28, skM s]
      simp only [lv_args, z_v, z_lg, z_h, z_u, z_u1, z_c, z_ct, z_sk, sbne, lst1_d, ldel, lst2_d, ldel2, z_sw, z_rok, zi, eq_self, List.map_cons, List.map_nil, List.append_nil, List.nil_append, List.cons_append, Int32.reduceLT, Int32.reduceLE, Int32.reduceAdd, Int32.reduceSub, Int32.reduceMul, Int32.reduceToInt, Int32.reduceToNatClampNeg, Int.reduceLT, Int.reduceLE, Int.reduceNeg, true_and, and_true, or_self, or_false, false_or, false_and, and_false, true_or, or_true, if_true, if_false, ne_eq, Classical.not_not, not_true_eq_false, not_false_eq_true, true_implies, false_implies, implies_true, Nat.reduceEqDiff, Nat.reduceAdd, Nat.reduceLeDiff, Nat.reduceSub, reduceCtorEq, reduceIte, b213_92, b213_300, skM s, Nat.reduceLT]
      exact pr_go ((sk_same rfl rfl rfl : Sk _ = Sk h) ▸ s) a9 (hq _ ⟨⟨sm_I a1, a3, a4, a5, a6, a7, ⟨d1, d2, d3, d4, d5, d6, d7⟩, a12⟩, Or.inl ⟨rfl, Or.inl rfl⟩⟩)
    · simp only [lv_args, z_v, z_lg, z_h, z_u, z_u1, z_c, z_ct, z_sk, sbne, lst1_d, ldel, lst2_d, ldel2, z_sw, z_rok, zi, eq_self, List.map_cons, List.map_nil, List.append_nil, List.nil_append, List.cons_append, Int32.reduceLT, Int32.reduceLE, Int32.reduceAdd, Int32.reduceSub, Int32.reduceMul, Int32.reduceToInt, Int32.reduceToNatClampNeg, Int.reduceLT, Int.reduceLE, Int.reduceNeg, true_and, and_true, or_self, or_false, false_or, false_and, and_false, true_or, or_true, if_true, if_false, ne_eq, Classical.not_not, not_true_eq_false, not_false_eq_true, true_implies, false_implies, implies_true, Nat.reduceEqDiff, Nat.reduceAdd, Nat.reduceLeDiff, Nat.reduceSub, reduceCtorEq, reduceIte, b255_0, b255_5, skM s, e58, nI_1, enw]
      simp only [lv_args, z_v, z_lg, z_h, z_u, z_u1, z_c, z_ct, z_sk, sbne, lst1_d, ldel, lst2_d, ldel2, z_sw, z_rok, zi, eq_self, List.map_cons, List.map_nil, List.append_nil, List.nil_append, List.cons_append, Int32.reduceLT, Int32.reduceLE, Int32.reduceAdd, Int32.reduceSub, Int32.reduceMul, Int32.reduceToInt, Int32.reduceToNatClampNeg, Int.reduceLT, Int.reduceLE, Int.reduceNeg, true_and, and_true, or_self, or_false, false_or, false_and, and_false, true_or, or_true, if_true, if_false, ne_eq, Classical.not_not, not_true_eq_false, not_false_eq_true, true_implies, false_implies, implies_true, Nat.reduceEqDiff, Nat.reduceAdd, Nat.reduceLeDiff, Nat.reduceSub, reduceCtorEq, reduceIte, b255_23]
      simp only [lv_args, z_v, z_lg, z_h, z_u, z_u1, z_c, z_ct, z_sk, sbne, lst1_d, ldel, lst2_d, ldel2, z_sw, z_rok, zi, eq_self, List.map_cons, List.map_nil, List.append_nil, List.nil_append, List.cons_append, Int32.reduceLT, Int32.reduceLE, Int32.reduceAdd, Int32.reduceSub, Int32.reduceMul, Int32.reduceToInt, Int32.reduceToNatClampNeg, Int.reduceLT, Int.reduceLE, Int.reduceNeg, true_and, and_true, or_self, or_false, false_or, false_and, and_false, true_or, or_true, if_true, if_false, ne_eq, Classical.not_not, not_true_eq_false, not_false_eq_true, true_implies, false_implies, implies_true, Nat.reduceEqDiff, Nat.reduceAdd, Nat.reduceLeDiff, Nat.reduceSub, reduceCtorEq, reduceIte, b255_28, skM s]
      simp only [lv_args, z_v, z_lg, z_h, z_u, z_u1, z_c, z_ct, z_sk, sbne, lst1_d, ldel, lst2_d, ldel2, z_sw, z_rok, zi, eq_self, List.map_cons, List.map_nil, List.append_nil, List.nil_append, List.cons_append, Int32.reduceLT, Int32.reduceLE, Int32.reduceAdd, Int32.reduceSub, Int32.reduceMul, Int32.reduceToInt, Int32.reduceToNatClampNeg, Int.reduceLT, Int.reduceLE, Int.reduceNeg, true_and, and_true, or_self, or_false, false_or, false_and, and_false, true_or, or_true, if_true, if_false, ne_eq, Classical.not_not, not_true_eq_false, not_false_eq_true, true_implies, false_implies, implies_true, Nat.reduceEqDiff, Nat.reduceAdd, Nat.reduceLeDiff, Nat.reduceSub, reduceCtorEq, reduceIte, b213_92, b213_300, skM s, Nat.reduceLT]
      exact pr_go ((sk_same rfl rfl rfl : Sk _ = Sk h) ▸ s) a9 (hq _ ⟨⟨sm_I (sm_L (sm_I a1)), a3, a4, a5, a6, a7, ⟨rfl, d2, d3, d4, rfl, d6, d7⟩, a12⟩, Or.inl ⟨rfl, Or.inl rfl⟩⟩)
theorem re_1 {y z : RSt} {r0 : Nat} (hr : RE1 G 1 y r0 z) (r : RM G q qv y h) (hd : 20 < d) (hq : ∀ h', RO G q qv r0 z h' → aWP d 257 35 (LR N) [] h' Q) : aWP d 257 35 (LR N) [] h Q := by
  obtain ⟨⟨md, nw, td, wk⟩, e, ⟨bx, ps, pa, ce, gr⟩, P⟩ := y
  cases md with
  | none => exact hr.elim
  | some n =>
    obtain ⟨hn, h3, hv, rfl, rfl⟩ := hr
    exact rs_v hn h3 hv r (by omega) (fun _ => hq _ (ro_er (n := 5) r (by decide) (by decide))) (fun c => absurd rfl c)
theorem re_2 {y z : RSt} {r0 : Nat} (hr : RE1 G 2 y r0 z) (r : RM G q qv y h) (hd : 20 < d) (hq : ∀ h', RO G q qv r0 z h' → aWP d 257 35 (LR N) [] h' Q) : aWP d 257 35 (LR N) [] h Q := by
  obtain ⟨⟨md, nw, td0, wk⟩, ⟨sl, bs, pr⟩, ⟨bx, ps, pa, ce, gr⟩, P⟩ := y
  match md, td0, hr with
  | none, (4, n, m) :: td, hr =>
    obtain ⟨i, c, a, v, rfl, hi, hc, hw, hv, rfl, rfl⟩ := hr
    have hm : G.1 26 a = 1 ∨ G.1 26 a = 2 ∨ G.1 26 a = 3 := by
      rcases hv with ⟨b, b1, _⟩ | ⟨c3, _⟩ | ⟨_, j, _, _, e⟩
      · rcases b1 with ⟨e, _⟩ | ⟨e, _⟩
        · exact Or.inl e
        · exact Or.inr (Or.inl e)
      · exact Or.inr (Or.inr c3)
      · exact absurd (vof_inj e).1 (by decide)
    exact rs_st hi hc hw (Or.inl rfl) (fun e => absurd e (by decide)) (fun _ => ⟨hv, hm⟩) r (by omega) (fun _ _ => hq _ (ro_er (n := 5) (rm_pop r) (by decide) (by decide))) (fun c => absurd rfl (c rfl)) (fun c => absurd rfl (c rfl))
theorem re_3 (hW : WG G) {y z : RSt} {r0 : Nat} (hr : RE1 G 3 y r0 z) (r : RM G q qv y h) (hd : 20 < d) (hq : ∀ h', RO G q qv r0 z h' → aWP d 257 35 (LR N) [] h' Q) : aWP d 257 35 (LR N) [] h Q := by
  obtain ⟨⟨md, nw, td, wk⟩, e, ⟨bx, ps, pa, ce, gr⟩, P⟩ := y
  cases md with
  | none => exact hr.elim
  | some n =>
    obtain ⟨hn, h4, c, l, M, hc, hw, hM1, hM2, e27, hce, rfl, rfl⟩ := hr
    have S := r.1
    have s := S.1
    have h0 : 0 < d - 1 - 1 := by omega
    have P0 := S.2.2.2.1
    have r17 := S.2.2.2.2.1
    have hM : M ≤ 120 := Nat.le_trans hM2 hW.2.2.2.1
    have hF : pFr G M ≤ 250 := (hW.2.2.2.2.2.1 M hM2).2.2.1
    obtain ⟨⟨k0, k1, k2, k4, k5, k6, k7, k10, k14, k15, k16, k17, k18, k19⟩, w7, w8, w10, w11, w12, w13, w16, w20, w21, w22, w23, w24, w25⟩ := prf s P0.1
    obtain ⟨v1, v2, v3⟩ := pm_n P0 (j := 7) (by decide) (by decide) hn
    have v2 : hA h (q + 7) n = nI M := v2.trans e27
    have n17 : hN h (q + 17) = 3000 := P0.2.2.2.2.2.1 17 (by decide) (by decide)
    obtain ⟨_, _, _, f17⟩ := P0.2.2.2.2.2.2.1 M hM1 hM2
    have e39 : hI h 59 39 = nI ce := r.2.2.2.2.2.1.2.2.2.2.2.1
    have hce2 : ce ≤ 40000 := r.2.2.2.2.2.1.2.2.2.2.2.2.1
    have z40 : (40000 : Int32) = nI 40000 := rfl
    have z1 : (1 : Int32) = nI 1 := rfl
    have eC : nI ce + nI 1 + nI (pFr G M) = nI (ce + 1 + pFr G M) := by rw [nI_add, nI_add]
    refine ls_go r (by omega) (wl_w S hn (by omega) h4 hc hw (t := 78) rfl ?_)
    simp only [lv_args, z_v, z_lg, z_h, z_u, z_u1, z_c, z_ct, z_sk, sbne, lst1_d, ldel, lst2_d, ldel2, z_sw, z_rok, zi, eq_self, List.map_cons, List.map_nil, List.append_nil, List.nil_append, List.cons_append, Int32.reduceLT, Int32.reduceLE, Int32.reduceAdd, Int32.reduceSub, Int32.reduceMul, Int32.reduceToInt, Int32.reduceToNatClampNeg, Int.reduceLT, Int.reduceLE, Int.reduceNeg, true_and, and_true, or_self, or_false, false_or, false_and, and_false, true_or, or_true, if_true, if_false, ne_eq, Classical.not_not, not_true_eq_false, not_false_eq_true, true_implies, false_implies, implies_true, Nat.reduceEqDiff, Nat.reduceAdd, Nat.reduceLeDiff, Nat.reduceSub, reduceCtorEq, reduceIte, b277_78, skM s, h0]
    unfold aEv
    simp only [lv_args, z_v, z_lg, z_h, z_u, z_u1, z_c, z_ct, z_sk, sbne, lst1_d, ldel, lst2_d, ldel2, z_sw, z_rok, zi, eq_self, List.map_cons, List.map_nil, List.append_nil, List.nil_append, List.cons_append, Int32.reduceLT, Int32.reduceLE, Int32.reduceAdd, Int32.reduceSub, Int32.reduceMul, Int32.reduceToInt, Int32.reduceToNatClampNeg, Int.reduceLT, Int.reduceLE, Int.reduceNeg, true_and, and_true, or_self, or_false, false_or, false_and, and_false, true_or, or_true, if_true, if_false, ne_eq, Classical.not_not, not_true_eq_false, not_false_eq_true, true_implies, false_implies, implies_true, Nat.reduceEqDiff, Nat.reduceAdd, Nat.reduceLeDiff, Nat.reduceSub, reduceCtorEq, reduceIte, b195_0, skM s, r17, k0, w13, k7]
    simp (disch := omega) only [nI_ti, nI_cl, le0N, ltNN, v1, v2, true_and]
    refine ⟨v3, ?_⟩
    try simp only [lv_args, z_v, z_lg, z_h, z_u, z_u1, z_c, z_ct, z_sk, sbne, lst1_d, ldel, lst2_d, ldel2, z_sw, z_rok, zi, eq_self, List.map_cons, List.map_nil, List.append_nil, List.nil_append, List.cons_append, Int32.reduceLT, Int32.reduceLE, Int32.reduceAdd, Int32.reduceSub, Int32.reduceMul, Int32.reduceToInt, Int32.reduceToNatClampNeg, Int.reduceLT, Int.reduceLE, Int.reduceNeg, true_and, and_true, or_self, or_false, false_or, false_and, and_false, true_or, or_true, if_true, if_false, ne_eq, Classical.not_not, not_true_eq_false, not_false_eq_true, true_implies, false_implies, implies_true, Nat.reduceEqDiff, Nat.reduceAdd, Nat.reduceLeDiff, Nat.reduceSub, reduceCtorEq, reduceIte, b195_0, skM s, r17, k0, w23, k17]
    try simp (disch := omega) only [nI_ti, nI_cl, le0N, ltNN, n17, f17, true_and]
    refine ⟨by omega, ?_⟩
    try simp only [lv_args, z_v, z_lg, z_h, z_u, z_u1, z_c, z_ct, z_sk, sbne, lst1_d, ldel, lst2_d, ldel2, z_sw, z_rok, zi, eq_self, List.map_cons, List.map_nil, List.append_nil, List.nil_append, List.cons_append, Int32.reduceLT, Int32.reduceLE, Int32.reduceAdd, Int32.reduceSub, Int32.reduceMul, Int32.reduceToInt, Int32.reduceToNatClampNeg, Int.reduceLT, Int.reduceLE, Int.reduceNeg, true_and, and_true, or_self, or_false, false_or, false_and, and_false, true_or, or_true, if_true, if_false, ne_eq, Classical.not_not, not_true_eq_false, not_false_eq_true, true_implies, false_implies, implies_true, Nat.reduceEqDiff, Nat.reduceAdd, Nat.reduceLeDiff, Nat.reduceSub, reduceCtorEq, reduceIte, b195_0, skM s, e39, z1, eC, z40]
    simp (disch := omega) only [nI_leN]
    refine ⟨fun c => absurd c (by omega), fun _ => ?_⟩
    simp only [lv_args, z_v, z_lg, z_h, z_u, z_u1, z_c, z_ct, z_sk, sbne, lst1_d, ldel, lst2_d, ldel2, z_sw, z_rok, zi, eq_self, List.map_cons, List.map_nil, List.append_nil, List.nil_append, List.cons_append, Int32.reduceLT, Int32.reduceLE, Int32.reduceAdd, Int32.reduceSub, Int32.reduceMul, Int32.reduceToInt, Int32.reduceToNatClampNeg, Int.reduceLT, Int.reduceLE, Int.reduceNeg, true_and, and_true, or_self, or_false, false_or, false_and, and_false, true_or, or_true, if_true, if_false, ne_eq, Classical.not_not, not_true_eq_false, not_false_eq_true, true_implies, false_implies, implies_true, Nat.reduceEqDiff, Nat.reduceAdd, Nat.reduceLeDiff, Nat.reduceSub, reduceCtorEq, reduceIte, b195_34, skM s]
    simp only [lv_args, z_v, z_lg, z_h, z_u, z_u1, z_c, z_ct, z_sk, sbne, lst1_d, ldel, lst2_d, ldel2, z_sw, z_rok, zi, eq_self, List.map_cons, List.map_nil, List.append_nil, List.nil_append, List.cons_append, Int32.reduceLT, Int32.reduceLE, Int32.reduceAdd, Int32.reduceSub, Int32.reduceMul, Int32.reduceToInt, Int32.reduceToNatClampNeg, Int.reduceLT, Int.reduceLE, Int.reduceNeg, true_and, and_true, or_self, or_false, false_or, false_and, and_false, true_or, or_true, if_true, if_false, ne_eq, Classical.not_not, not_true_eq_false, not_false_eq_true, true_implies, false_implies, implies_true, Nat.reduceEqDiff, Nat.reduceAdd, Nat.reduceLeDiff, Nat.reduceSub, reduceCtorEq, reduceIte, b277_78, b277_218, skM s, Nat.reduceLT]
    exact pr_eo (n := 6) r (by decide) (by decide) hq
theorem ap_b {i : Nat} {y : RSt} (ha : Apx G i y td wk) (hb : Bnd y) : td.length ≤ 44000 ∧ wk.length ≤ 304001 := by
  obtain ⟨⟨md, nw, td0, wk0⟩, X⟩ := y
  obtain ⟨_, k, n, m, rfl, e⟩ := ha
  have hb1 : td.length + 1 ≤ 44000 := hb.1
  have hb2 : wk0.length ≤ 304000 := hb.2.1
  refine ⟨by omega, ?_⟩
  rcases e with ⟨_, p, _, _, _, _, rfl⟩ | ⟨_, _, rfl⟩
  · rw [List.length_append, List.length_singleton]; omega
  · omega
theorem re_4 {y z : RSt} {r0 : Nat} (hr : RE1 G 4 y r0 z) (r : RM G q qv y h) (hb : Bnd y) (hd : 60 < d) (hq : ∀ h', RO G q qv r0 z h' → aWP d 257 35 (LR N) [] h' Q) : aWP d 257 35 (LR N) [] h Q := by
  obtain ⟨A, X⟩ := y
  obtain ⟨i, c, l, td, wk, wk', f, xs, ha, hi, hc, h8, rfl, hx, n7, n8, rfl, rfl⟩ := hr
  have hab := (ap_b ha hb).2
  rw [List.length_append] at hab
  refine ap_go ha r hb (by omega) (fun h1 r1 => ?_)
  have s1 := r1.1.1
  refine ap_in hi hc h8 hx (by omega) r1 (by omega) (fun c => absurd c n7) (fun _ c => absurd c n8) (fun _ _ => ?_)
  simp only [lv_args, z_v, z_lg, z_h, z_u, z_u1, z_c, z_ct, z_sk, sbne, lst1_d, ldel, lst2_d, ldel2, z_sw, z_rok, zi, eq_self, List.map_cons, List.map_nil, List.append_nil, List.nil_append, List.cons_append, Int32.reduceLT, Int32.reduceLE, Int32.reduceAdd, Int32.reduceSub, Int32.reduceMul, Int32.reduceToInt, Int32.reduceToNatClampNeg, Int.reduceLT, Int.reduceLE, Int.reduceNeg, true_and, and_true, or_self, or_false, false_or, false_and, and_false, true_or, or_true, if_true, if_false, ne_eq, Classical.not_not, not_true_eq_false, not_false_eq_true, true_implies, false_implies, implies_true, Nat.reduceEqDiff, Nat.reduceAdd, Nat.reduceLeDiff, Nat.reduceSub, reduceCtorEq, reduceIte, b180_117, b180_122, skM s1]
  exact pr_eo (n := 1) r1 (by decide) (by decide) hq
theorem re_5 (hW : WG G) {y z : RSt} {r0 : Nat} (hr : RE1 G 5 y r0 z) (r : RM G q qv y h) (hb : Bnd y) (hd : 60 < d) (hq : ∀ h', RO G q qv r0 z h' → aWP d 257 35 (LR N) [] h' Q) : aWP d 257 35 (LR N) [] h Q := by
  obtain ⟨A, ⟨sl, bs, pr⟩, ⟨bx, ps, pa, ce, gr⟩, ⟨inp, out, th, op, st, lt, bu⟩⟩ := y
  obtain ⟨i, c, l, td, wk, wk', xs, f, M, ks, ha, hi, hc, h8, rfl, hx, hf, hM1, hM2, k, t, rfl, hz⟩ := hr
  obtain ⟨htd, hab⟩ := ap_b ha hb
  rw [List.length_append] at hab
  refine ap_go ha r hb (by omega) (fun h1 r1 => ?_)
  have s1 := r1.1.1
  have h0 : 0 < d - 1 - 1 := by omega
  have h01 : 0 < d - 1 - 1 - 1 := by omega
  refine ap_in hi hc h8 hx (by omega) r1 (by omega) (fun _ => ?_) (fun c7 => absurd (vof_kd _ _) c7) (fun c7 => absurd (vof_kd _ _) c7)
  simp only [lv_args, z_v, z_lg, z_h, z_u, z_u1, z_c, z_ct, z_sk, sbne, lst1_d, ldel, lst2_d, ldel2, z_sw, z_rok, zi, eq_self, List.map_cons, List.map_nil, List.append_nil, List.nil_append, List.cons_append, Int32.reduceLT, Int32.reduceLE, Int32.reduceAdd, Int32.reduceSub, Int32.reduceMul, Int32.reduceToInt, Int32.reduceToNatClampNeg, Int.reduceLT, Int.reduceLE, Int.reduceNeg, true_and, and_true, or_self, or_false, false_or, false_and, and_false, true_or, or_true, if_true, if_false, ne_eq, Classical.not_not, not_true_eq_false, not_false_eq_true, true_implies, false_implies, implies_true, Nat.reduceEqDiff, Nat.reduceAdd, Nat.reduceLeDiff, Nat.reduceSub, reduceCtorEq, reduceIte, b180_64, skM s1, h0, e272, vof_lo]
  rw [hx]
  refine cl_in hW r1 hf hM1 hM2 h8 (fun c2 => ?_) (fun c2 k8 o1 => ?_) (fun c2 ck h2 x5 hx5 _ hKe r2 => ?_)
  · rcases hz with ⟨_, rfl, rfl⟩ | ⟨e, _⟩ | ⟨e, _⟩
    · simp only [lv_args, z_v, z_lg, z_h, z_u, z_u1, z_c, z_ct, z_sk, sbne, lst1_d, ldel, lst2_d, ldel2, z_sw, z_rok, zi, eq_self, List.map_cons, List.map_nil, List.append_nil, List.nil_append, List.cons_append, Int32.reduceLT, Int32.reduceLE, Int32.reduceAdd, Int32.reduceSub, Int32.reduceMul, Int32.reduceToInt, Int32.reduceToNatClampNeg, Int.reduceLT, Int.reduceLE, Int.reduceNeg, true_and, and_true, or_self, or_false, false_or, false_and, and_false, true_or, or_true, if_true, if_false, ne_eq, Classical.not_not, not_true_eq_false, not_false_eq_true, true_implies, false_implies, implies_true, Nat.reduceEqDiff, Nat.reduceAdd, Nat.reduceLeDiff, Nat.reduceSub, reduceCtorEq, reduceIte, b180_64, b180_122, skM s1, Nat.reduceLT]
      exact pr_eo (n := 2) r1 (by decide) (by decide) hq
    · exact absurd e.symm c2
    · exact absurd e.symm c2
  · rcases hz with ⟨e, _⟩ | ⟨_, _, _, rfl, rfl⟩ | ⟨_, e, _⟩
    · exact absurd c2.symm e
    · simp only [lv_args, z_v, z_lg, z_h, z_u, z_u1, z_c, z_ct, z_sk, sbne, lst1_d, ldel, lst2_d, ldel2, z_sw, z_rok, zi, eq_self, List.map_cons, List.map_nil, List.append_nil, List.nil_append, List.cons_append, Int32.reduceLT, Int32.reduceLE, Int32.reduceAdd, Int32.reduceSub, Int32.reduceMul, Int32.reduceToInt, Int32.reduceToNatClampNeg, Int.reduceLT, Int.reduceLE, Int.reduceNeg, true_and, and_true, or_self, or_false, false_or, false_and, and_false, true_or, or_true, if_true, if_false, ne_eq, Classical.not_not, not_true_eq_false, not_false_eq_true, true_implies, false_implies, implies_true, Nat.reduceEqDiff, Nat.reduceAdd, Nat.reduceLeDiff, Nat.reduceSub, reduceCtorEq, reduceIte, b180_64, b180_122, skM s1, Nat.reduceLT]
      exact pr_eo (n := 7) r1 (by decide) (by decide) hq
    · rcases e with e | e
      · exact absurd e k8
      · omega
  · rcases hz with ⟨e, _⟩ | ⟨_, e, e2, _⟩ | ⟨_, _, rfl, rfl, rfl⟩
    · exact absurd c2.symm e
    · rcases ck with ck | ck
      · exact absurd ck e
      · omega
    · have s2 := r2.1.1
      have e61 : hI h2 59 61 = 0 := r2.2.2.2.2.2.2.2.1.2.2.2.2.2.1
      simp only [lv_args, z_v, z_lg, z_h, z_u, z_u1, z_c, z_ct, z_sk, sbne, lst1_d, ldel, lst2_d, ldel2, z_sw, z_rok, zi, eq_self, List.map_cons, List.map_nil, List.append_nil, List.nil_append, List.cons_append, Int32.reduceLT, Int32.reduceLE, Int32.reduceAdd, Int32.reduceSub, Int32.reduceMul, Int32.reduceToInt, Int32.reduceToNatClampNeg, Int.reduceLT, Int.reduceLE, Int.reduceNeg, true_and, and_true, or_self, or_false, false_or, false_and, and_false, true_or, or_true, if_true, if_false, ne_eq, Classical.not_not, not_true_eq_false, not_false_eq_true, true_implies, false_implies, implies_true, Nat.reduceEqDiff, Nat.reduceAdd, Nat.reduceLeDiff, Nat.reduceSub, reduceCtorEq, reduceIte, b192_82, skM s2, e61]
      simp only [lv_args, z_v, z_lg, z_h, z_u, z_u1, z_c, z_ct, z_sk, sbne, lst1_d, ldel, lst2_d, ldel2, z_sw, z_rok, zi, eq_self, List.map_cons, List.map_nil, List.append_nil, List.nil_append, List.cons_append, Int32.reduceLT, Int32.reduceLE, Int32.reduceAdd, Int32.reduceSub, Int32.reduceMul, Int32.reduceToInt, Int32.reduceToNatClampNeg, Int.reduceLT, Int.reduceLE, Int.reduceNeg, true_and, and_true, or_self, or_false, false_or, false_and, and_false, true_or, or_true, if_true, if_false, ne_eq, Classical.not_not, not_true_eq_false, not_false_eq_true, true_implies, false_implies, implies_true, Nat.reduceEqDiff, Nat.reduceAdd, Nat.reduceLeDiff, Nat.reduceSub, reduceCtorEq, reduceIte, b192_89, skM s2, h01]
      refine sp_holds (w := 1) r2 (by omega) (by omega) (by decide) (by decide) (fun h3 r3 e68 => ?_)
      have s3 := r3.1.1.1
      simp only [lv_args, z_v, z_lg, z_h, z_u, z_u1, z_c, z_ct, z_sk, sbne, lst1_d, ldel, lst2_d, ldel2, z_sw, z_rok, zi, eq_self, List.map_cons, List.map_nil, List.append_nil, List.nil_append, List.cons_append, Int32.reduceLT, Int32.reduceLE, Int32.reduceAdd, Int32.reduceSub, Int32.reduceMul, Int32.reduceToInt, Int32.reduceToNatClampNeg, Int.reduceLT, Int.reduceLE, Int.reduceNeg, true_and, and_true, or_self, or_false, false_or, false_and, and_false, true_or, or_true, if_true, if_false, ne_eq, Classical.not_not, not_true_eq_false, not_false_eq_true, true_implies, false_implies, implies_true, Nat.reduceEqDiff, Nat.reduceAdd, Nat.reduceLeDiff, Nat.reduceSub, reduceCtorEq, reduceIte, b192_89, skM s2, Nat.reduceLT]
      simp only [lv_args, z_v, z_lg, z_h, z_u, z_u1, z_c, z_ct, z_sk, sbne, lst1_d, ldel, lst2_d, ldel2, z_sw, z_rok, zi, eq_self, List.map_cons, List.map_nil, List.append_nil, List.nil_append, List.cons_append, Int32.reduceLT, Int32.reduceLE, Int32.reduceAdd, Int32.reduceSub, Int32.reduceMul, Int32.reduceToInt, Int32.reduceToNatClampNeg, Int.reduceLT, Int.reduceLE, Int.reduceNeg, true_and, and_true, or_self, or_false, false_or, false_and, and_false, true_or, or_true, if_true, if_false, ne_eq, Classical.not_not, not_true_eq_false, not_false_eq_true, true_implies, false_implies, implies_true, Nat.reduceEqDiff, Nat.reduceAdd, Nat.reduceLeDiff, Nat.reduceSub, reduceCtorEq, reduceIte, b180_64, b180_122, skM s1, Nat.reduceLT]
      exact pr_go s3 e68 (hq _ r3)
end REZ
