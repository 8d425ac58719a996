/-! RESTART: both machines begin anew -/
section RST
variable {h h' g : Hp} {Q : Option Value → Hp → Prop} {d : Nat} {G : PG} {p q : Nat} {qv : Nat → Int64} {k : Nat}
theorem vs_r (v : Vs p q h) : hR h 0 6 = some p ∧ hR h 59 17 = some q ∧ hR h 59 18 = some (152 - q) := by
  obtain ⟨v1, v2, _⟩ := v
  rcases v1 with ⟨rfl, e1, _⟩ | ⟨rfl, e1, _⟩ <;> rcases v2 with ⟨rfl, e2, e3⟩ | ⟨rfl, e2, e3⟩ <;> exact ⟨e1, e2, e3⟩
theorem sp_begAnew (s : Sk h) (vy : Vy h) (rm : Rm h) (P : PX G p h) (hz : pCz G < 1000000) (hW : WG G) (vs : Vs p q h) (hd : 20 < d) (hq : ∀ h', SX G p h' → RWn (z0 G) h' → hI h' 47 13 = -1 → RXp [] [] h' → hL h' 0 9 = 0 → (∀ j, j < 4 → hB h' 58 j = 0) → (∀ a, ¬ Xc a → hI h' a = hI h a ∧ hR h' a = hR h a ∧ hA h' a = hA h a ∧ hN h' a = hN h a) → (∀ a, ¬ Xc a → a ≠ 58 → hB h' a = hB h a) → (∀ a, ¬ Xc a → a ≠ 0 → hL h' a = hL h a) → Q none h') : aEv d 160 [.ref 0] h Q := by
  have h0 : 0 < d := by omega
  obtain ⟨r06, _, _⟩ := vs_r vs
  have hr47 : ∃ r0, hR h 47 2 = some r0 ∧ (r0 = 19 ∨ r0 = 29) := by
    rcases vs.2.2.2.2 with e | e
    · exact ⟨19, e, Or.inl rfl⟩
    · exact ⟨29, e, Or.inr rfl⟩
  obtain ⟨r0, e47, hr0⟩ := hr47
  obtain ⟨kp, _, _⟩ := px_k s P.1
  have E := sp_beg46 (d := d - 1) (Q := fun r h' => r = none ∧ SX G p h' ∧ RWn (z0 G) h' ∧ hI h' 47 13 = -1 ∧ RXp [] [] h') s vy rm P hz hW e47 hr0 (by omega) (fun h' a1 a2 a3 a4 => ⟨rfl, a1, a2, a3, a4⟩)
  have hxS : xS Xc [.ref 47, .ref p] := fun v hv k e => by
    simp only [List.mem_cons, List.not_mem_nil, or_false] at hv
    rcases hv with rfl | rfl
    · injection e with e
      subst e
      exact Or.inr (Or.inl ⟨by decide, by decide⟩)
    · injection e with e
      subst e
      have := P.1
      exact Or.inl (by omega)
  unfold aEv
  simp only [lv_args, z_v, z_lg, z_h, z_u, z_u1, z_c, z_ct, z_sk, sbne, lst1_d, ldel, lst2_d, ldel2, z_sw, z_rok, zi, eq_self, List.map_cons, List.map_nil, List.append_nil, List.nil_append, List.cons_append, Int32.reduceLT, Int32.reduceLE, Int32.reduceAdd, Int32.reduceSub, Int32.reduceMul, Int32.reduceToInt, Int32.reduceToNatClampNeg, Int.reduceLT, Int.reduceLE, Int.reduceNeg, true_and, and_true, or_self, or_false, false_or, false_and, and_false, true_or, or_true, if_true, if_false, ne_eq, Classical.not_not, not_true_eq_false, not_false_eq_true, true_implies, false_implies, implies_true, Nat.reduceEqDiff, Nat.reduceAdd, Nat.reduceLeDiff, Nat.reduceSub, reduceCtorEq, reduceIte, b160_0, skX s, srX s, r06, h0]
  refine aEv_mono (aEv_frame Xc (rg_c s vs) hxS E) ?_
  rintro r h1 ⟨⟨rfl, a1, a2, a3, a4⟩, _, sm, _⟩
  have s1 := a1.1
  have n58 : hN h1 58 = 4 := a1.2.2.1.1.2 (58, 4) (by decide)
  have s2 : Sk (pL h1 0 9 0) := sk_u2 s1
  simp only [lv_args, z_v, z_lg, z_h, z_u, z_u1, z_c, z_ct, z_sk, sbne, lst1_d, ldel, lst2_d, ldel2, z_sw, z_rok, zi, eq_self, List.map_cons, List.map_nil, List.append_nil, List.nil_append, List.cons_append, Int32.reduceLT, Int32.reduceLE, Int32.reduceAdd, Int32.reduceSub, Int32.reduceMul, Int32.reduceToInt, Int32.reduceToNatClampNeg, Int.reduceLT, Int.reduceLE, Int.reduceNeg, true_and, and_true, or_self, or_false, false_or, false_and, and_false, true_or, or_true, if_true, if_false, ne_eq, Classical.not_not, not_true_eq_false, not_false_eq_true, true_implies, false_implies, implies_true, Nat.reduceEqDiff, Nat.reduceAdd, Nat.reduceLeDiff, Nat.reduceSub, reduceCtorEq, reduceIte, b160_0, skX s, skX s1, srX s1, h0, Nat.reduceLT]
  refine sp_fillL (n := 4) (h := pL h1 0 9 0) (s1.1 58 (by decide)) n58 (by decide) ?_
  simp only [lv_args, z_v, z_lg, z_h, z_u, z_u1, z_c, z_ct, z_sk, sbne, lst1_d, ldel, lst2_d, ldel2, z_sw, z_rok, zi, eq_self, List.map_cons, List.map_nil, List.append_nil, List.nil_append, List.cons_append, Int32.reduceLT, Int32.reduceLE, Int32.reduceAdd, Int32.reduceSub, Int32.reduceMul, Int32.reduceToInt, Int32.reduceToNatClampNeg, Int.reduceLT, Int.reduceLE, Int.reduceNeg, true_and, and_true, or_self, or_false, false_or, false_and, and_false, true_or, or_true, if_true, if_false, ne_eq, Classical.not_not, not_true_eq_false, not_false_eq_true, true_implies, false_implies, implies_true, Nat.reduceEqDiff, Nat.reduceAdd, Nat.reduceLeDiff, Nat.reduceSub, reduceCtorEq, reduceIte, b160_0, skX s1, Nat.reduceLT]
  refine hq _ (sx_B (sx_L a1)) ?_ a3 a4 rfl (fun j hj => if_pos hj) (fun a ha => ?_) (fun a ha h58 => ?_) (fun a ha h0' => ?_)
  · obtain ⟨w1, w2, w3, w4, w5, w6⟩ := a2
    exact ⟨w1, w2, w3, w4, w5, w6⟩
  · obtain ⟨e1, e2, e3, e4, e5, e6, _⟩ := sm a ha
    exact ⟨e1, e3, e4, e6⟩
  · obtain ⟨e1, e2, e3, e4, e5, e6, _⟩ := sm a ha
    exact (up1_ne h58).trans e5
  · obtain ⟨e1, e2, e3, e4, e5, e6, _⟩ := sm a ha
    exact (up2_row h0').trans e2
/-- both have begun: what holds -/
theorem beg_fin {pa : List (Int64 × Int64)} {bu : Nat} {pm : List Nat} {ty : TY} (ps : PS G) (cor : Cor G qv pm [] ty [] [] [] (dat G) 0 (List.replicate 100 (vof 9 0)) [] [] pa (List.replicate (pDf G) (vof 9 0))) (vs : Vs p q g) (rq : Rq g) (n1 : hI g 59 19 = 1) (sx : SX G p g) (rw' : RWn (z0 G) g) (a1 : hI g 47 13 = -1) (p1 : hL g 0 9 = 0) (b58 : ∀ j, j < 4 → hB g 58 j = 0) (sm : SM0 G q qv g) (rz : RZn (y0 G pa bu) g) (mc : MXc none 0 g) (f69 : hI g 59 69 = -1) (f60 : hI g 59 60 = -1) (p2 : hL g 59 63 = 0) (b129 : ∀ j, j < 4 → hB g 129 j = 0) : CoreM Mach k g := by
  obtain ⟨hW, ⟨l, hl1, hl2⟩, _⟩ := id ps
  refine ⟨Dv pm [], cor_vj cor, ⟨by rw [p1, p2]; exact vr_0 _, fun j hj => by rw [b58 j hj, b129 j hj]; exact vr_0 _, sx.2.2.1.1.2 (58, 4) (by decide), sx.2.2.1.1.2 (129, 4) (by decide)⟩, sx.1, sx.2.1, sx.2.2.1, rq, p, q, vs, Or.inr ⟨n1, G, qv, pm, [], z0 G, y0 G pa bu, rfl, ps, sx, sm, rw', rz, a1.trans f60.symm, ⟨⟨rfl, rfl, rfl, rfl⟩, vr_0 _, ty, [], [], [], cor⟩, Or.inr ⟨Or.inl a1, f69, mc, 150, ⟨rfl, rfl, rfl⟩, ty, [], [], [], 0, [], [], [], List.replicate (pSn G 0) 0, vr_0 _, cor, ⟨rfl, rfl, rfl, rfl, Or.inl ⟨rfl, rfl, rfl⟩, ⟨rfl, fun j e => by simp at e, fun j s e => by simp at e⟩, List.length_replicate, ?_, rfl, by decide, Nat.zero_le _, Nat.zero_le _⟩, Or.inr (Or.inr (Or.inr ⟨rfl, rfl, rfl, rfl, rfl, rfl, rfl, rfl, Nat.le_refl _, pF1 G, l, rfl, hl1, hl2⟩))⟩⟩⟩
  show 0 + pDm G 0 ≤ pDm G 0
  omega
theorem op_restart : OpS (InvC (CoreM Mach)) 174 254 0 := by
  intro k h As hk hi hl hv
  obtain rfl := as_0 hl
  have up := inv_up (coc_of mach_com) hi
  obtain ⟨s, ⟨t, t1, t2, t3, t4, t5, t6⟩, ⟨f1, f2⟩, pi, po, hh, D, J, pt, sk, vy, rm, rq, p, q, vs, H⟩ := hi
  have h0 : 0 < 1399 := by decide
  change aWP 1399 174 0 (lv_args 0 [.ref 0]) [] h _
  simp only [lv_args, z_v, z_lg, z_h, z_u, z_u1, z_c, z_ct, z_sk, sbne, lst1_d, ldel, lst2_d, ldel2, z_sw, z_rok, zi, eq_self, List.map_cons, List.map_nil, List.append_nil, List.nil_append, List.cons_append, Int32.reduceLT, Int32.reduceLE, Int32.reduceAdd, Int32.reduceSub, Int32.reduceMul, Int32.reduceToInt, Int32.reduceToNatClampNeg, Int.reduceLT, Int.reduceLE, Int.reduceNeg, true_and, and_true, or_self, or_false, false_or, false_and, and_false, true_or, or_true, if_true, if_false, ne_eq, Classical.not_not, not_true_eq_false, not_false_eq_true, true_implies, false_implies, implies_true, Nat.reduceEqDiff, Nat.reduceAdd, Nat.reduceLeDiff, Nat.reduceSub, reduceCtorEq, reduceIte, b174_0, skX s]
  refine ⟨fun c => ?_, fun c => ?_⟩
  · simp only [lv_args, z_v, z_lg, z_h, z_u, z_u1, z_c, z_ct, z_sk, sbne, lst1_d, ldel, lst2_d, ldel2, z_sw, z_rok, zi, eq_self, List.map_cons, List.map_nil, List.append_nil, List.nil_append, List.cons_append, Int32.reduceLT, Int32.reduceLE, Int32.reduceAdd, Int32.reduceSub, Int32.reduceMul, Int32.reduceToInt, Int32.reduceToNatClampNeg, Int.reduceLT, Int.reduceLE, Int.reduceNeg, true_and, and_true, or_self, or_false, false_or, false_and, and_false, true_or, or_true, if_true, if_false, ne_eq, Classical.not_not, not_true_eq_false, not_false_eq_true, true_implies, false_implies, implies_true, Nat.reduceEqDiff, Nat.reduceAdd, Nat.reduceLeDiff, Nat.reduceSub, reduceCtorEq, reduceIte, b174_11, skX s, c]
    refine ⟨0, rfl, ?_⟩
    have c' : hI h 59 19 = 0 := by rw [← hh]; exact c
    unfold aEv
    simp only [lv_args, z_v, z_lg, z_h, z_u, z_u1, z_c, z_ct, z_sk, sbne, lst1_d, ldel, lst2_d, ldel2, z_sw, z_rok, zi, eq_self, List.map_cons, List.map_nil, List.append_nil, List.nil_append, List.cons_append, Int32.reduceLT, Int32.reduceLE, Int32.reduceAdd, Int32.reduceSub, Int32.reduceMul, Int32.reduceToInt, Int32.reduceToNatClampNeg, Int.reduceLT, Int.reduceLE, Int.reduceNeg, true_and, and_true, or_self, or_false, false_or, false_and, and_false, true_or, or_true, if_true, if_false, ne_eq, Classical.not_not, not_true_eq_false, not_false_eq_true, true_implies, false_implies, implies_true, Nat.reduceEqDiff, Nat.reduceAdd, Nat.reduceLeDiff, Nat.reduceSub, reduceCtorEq, reduceIte, b254_0, skM s, c']
    simp only [lv_args, z_v, z_lg, z_h, z_u, z_u1, z_c, z_ct, z_sk, sbne, lst1_d, ldel, lst2_d, ldel2, z_sw, z_rok, zi, eq_self, List.map_cons, List.map_nil, List.append_nil, List.nil_append, List.cons_append, Int32.reduceLT, Int32.reduceLE, Int32.reduceAdd, Int32.reduceSub, Int32.reduceMul, Int32.reduceToInt, Int32.reduceToNatClampNeg, Int.reduceLT, Int.reduceLE, Int.reduceNeg, true_and, and_true, or_self, or_false, false_or, false_and, and_false, true_or, or_true, if_true, if_false, ne_eq, Classical.not_not, not_true_eq_false, not_false_eq_true, true_implies, false_implies, implies_true, Nat.reduceEqDiff, Nat.reduceAdd, Nat.reduceLeDiff, Nat.reduceSub, reduceCtorEq, reduceIte, b254_7]
    exact up
  · rw [hh] at c
    rcases H with ⟨n0, _⟩ | ⟨n1, G, qv, pm, pl, z, y, rfl, ps, sx, sm0, rw', rz, ea, mid, lv⟩
    · exact absurd n0 c
    obtain ⟨hW, _, qv0, pa0, hQ, hpa, pm0, ty0, cor0⟩ := id ps
    obtain ⟨_, r17, r18⟩ := vs_r vs
    simp only [lv_args, z_v, z_lg, z_h, z_u, z_u1, z_c, z_ct, z_sk, sbne, lst1_d, ldel, lst2_d, ldel2, z_sw, z_rok, zi, eq_self, List.map_cons, List.map_nil, List.append_nil, List.nil_append, List.cons_append, Int32.reduceLT, Int32.reduceLE, Int32.reduceAdd, Int32.reduceSub, Int32.reduceMul, Int32.reduceToInt, Int32.reduceToNatClampNeg, Int.reduceLT, Int.reduceLE, Int.reduceNeg, true_and, and_true, or_self, or_false, false_or, false_and, and_false, true_or, or_true, if_true, if_false, ne_eq, Classical.not_not, not_true_eq_false, not_false_eq_true, true_implies, false_implies, implies_true, Nat.reduceEqDiff, Nat.reduceAdd, Nat.reduceLeDiff, Nat.reduceSub, reduceCtorEq, reduceIte, b174_7, skX s, h0]
    refine sp_begAnew s vy rm sx.2.2.2.1 sx.2.2.2.2.2 hW vs (by decide) (fun h1 x1 x2 x3 x4 x5 x6 x7 x8 x9 => ?_)
    have s1 := x1.1
    have e0 := x7 0 (by omega)
    have e59 := x7 59 (by omega)
    have i08 : hI h1 0 8 = 1 := by rw [e0.1, hh]; exact n1
    have i19 : hI h1 59 19 = 1 := by rw [e59.1]; exact n1
    simp only [lv_args, z_v, z_lg, z_h, z_u, z_u1, z_c, z_ct, z_sk, sbne, lst1_d, ldel, lst2_d, ldel2, z_sw, z_rok, zi, eq_self, List.map_cons, List.map_nil, List.append_nil, List.nil_append, List.cons_append, Int32.reduceLT, Int32.reduceLE, Int32.reduceAdd, Int32.reduceSub, Int32.reduceMul, Int32.reduceToInt, Int32.reduceToNatClampNeg, Int.reduceLT, Int.reduceLE, Int.reduceNeg, true_and, and_true, or_self, or_false, false_or, false_and, and_false, true_or, or_true, if_true, if_false, ne_eq, Classical.not_not, not_true_eq_false, not_false_eq_true, true_implies, false_implies, implies_true, Nat.reduceEqDiff, Nat.reduceAdd, Nat.reduceLeDiff, Nat.reduceSub, reduceCtorEq, reduceIte, b174_7, b174_11, skX s, skX s1, Nat.reduceLT, i08]
    refine ⟨1, rfl, ?_⟩
    have kM : ∀ a, 59 ≤ a → a < 130 → hI h1 a = hI h a ∧ hR h1 a = hR h a ∧ hA h1 a = hA h a ∧ hN h1 a = hN h a := fun a ha1 ha2 => x7 a (by omega)
    have hq66 : q = 66 ∨ q = 86 := sm0.2.2.2.1.1
    have P1 : PM G q h1 := pm_same (kM q (by omega) (by omega)).1 (fun j hj => ⟨(kM (q + j) (by omega) (by omega)).2.2.1, (kM (q + j) (by omega) (by omega)).2.2.2⟩) sm0.2.2.2.1
    have rq1 : Rq h1 := by
      unfold Rq at rq ⊢
      rw [(kM 119 (by decide) (by decide)).2.2.2, (kM 120 (by decide) (by decide)).2.2.2, (kM 121 (by decide) (by decide)).2.2.2, (kM 122 (by decide) (by decide)).2.2.2, (kM 123 (by decide) (by decide)).2.2.2, (kM 124 (by decide) (by decide)).2.2.2, e59.1]
      exact rq
    obtain ⟨_, _, _, bu, hbu, ebu⟩ := id rq1
    have vs1 : Vs p q h1 := by
      refine ⟨?_, ?_, by rw [(x7 39 (by omega)).2.1]; exact vs.2.2.1, by rw [(x7 3 (by omega)).2.1]; exact vs.2.2.2.1, ?_⟩
      · unfold PgX; rw [e0.2.1]; exact vs.1
      · unfold PgM; rw [e59.2.1]; exact vs.2.1
      · have := sx.2.2.2.1.1
        rcases this with e | e
        · exact Or.inl (e ▸ x1.2.2.2.2.1)
        · exact Or.inr (e ▸ x1.2.2.2.2.1)
    have E : aEv 1399 254 [.ref 59] h1 (fun r2 h2 => r2 = some (.int 1) ∧ (SM0 G q qv0 h2 ∧ RZn (y0 G pa0 bu) h2 ∧ MXc none 0 h2 ∧ MXp [] [] h2 ∧ (hI h2 59 69 = -1 ∧ hI h2 59 60 = -1 ∧ hL h2 59 63 = 0) ∧ (∀ j, j < 4 → hB h2 129 j = 0) ∧ hR h2 = hR h1 ∧ (hI h2 59 1 = hI h1 59 1 ∧ hI h2 59 2 = hI h1 59 2 ∧ hI h2 59 3 = hI h1 59 3 ∧ hI h2 59 19 = hI h1 59 19) ∧ hA h2 60 = hA h1 60)) := by
      unfold aEv
      have z10 : ¬ (1 : Int32) = 0 := by decide
      simp only [lv_args, z_v, z_lg, z_h, z_u, z_u1, z_c, z_ct, z_sk, sbne, lst1_d, ldel, lst2_d, ldel2, z_sw, z_rok, zi, eq_self, List.map_cons, List.map_nil, List.append_nil, List.nil_append, List.cons_append, Int32.reduceLT, Int32.reduceLE, Int32.reduceAdd, Int32.reduceSub, Int32.reduceMul, Int32.reduceToInt, Int32.reduceToNatClampNeg, Int.reduceLT, Int.reduceLE, Int.reduceNeg, true_and, and_true, or_self, or_false, false_or, false_and, and_false, true_or, or_true, if_true, if_false, ne_eq, Classical.not_not, not_true_eq_false, not_false_eq_true, true_implies, false_implies, implies_true, Nat.reduceEqDiff, Nat.reduceAdd, Nat.reduceLeDiff, Nat.reduceSub, reduceCtorEq, reduceIte, b254_0, skM s1, i19, z10]
      simp only [lv_args, z_v, z_lg, z_h, z_u, z_u1, z_c, z_ct, z_sk, sbne, lst1_d, ldel, lst2_d, ldel2, z_sw, z_rok, zi, eq_self, List.map_cons, List.map_nil, List.append_nil, List.nil_append, List.cons_append, Int32.reduceLT, Int32.reduceLE, Int32.reduceAdd, Int32.reduceSub, Int32.reduceMul, Int32.reduceToInt, Int32.reduceToNatClampNeg, Int.reduceLT, Int.reduceLE, Int.reduceNeg, true_and, and_true, or_self, or_false, false_or, false_and, and_false, true_or, or_true, if_true, if_false, ne_eq, Classical.not_not, not_true_eq_false, not_false_eq_true, true_implies, false_implies, implies_true, Nat.reduceEqDiff, Nat.reduceAdd, Nat.reduceLeDiff, Nat.reduceSub, reduceCtorEq, reduceIte, b254_9, skM s1, h0]
      refine sp_begins s1 x1.2.1 x1.2.2.1 rq1 P1 (by rw [e59.2.1]; exact r17) hW (by rw [e59.2.1]; exact r18) hQ hpa hbu ebu (by decide) (fun h2 y1 y2 y3 y4 y5 y6 y7 y8 y9 => ?_)
      have s2 := y1.1
      simp only [lv_args, z_v, z_lg, z_h, z_u, z_u1, z_c, z_ct, z_sk, sbne, lst1_d, ldel, lst2_d, ldel2, z_sw, z_rok, zi, eq_self, List.map_cons, List.map_nil, List.append_nil, List.nil_append, List.cons_append, Int32.reduceLT, Int32.reduceLE, Int32.reduceAdd, Int32.reduceSub, Int32.reduceMul, Int32.reduceToInt, Int32.reduceToNatClampNeg, Int.reduceLT, Int.reduceLE, Int.reduceNeg, true_and, and_true, or_self, or_false, false_or, false_and, and_false, true_or, or_true, if_true, if_false, ne_eq, Classical.not_not, not_true_eq_false, not_false_eq_true, true_implies, false_implies, implies_true, Nat.reduceEqDiff, Nat.reduceAdd, Nat.reduceLeDiff, Nat.reduceSub, reduceCtorEq, reduceIte, b254_9, skM s1, Nat.reduceLT]
      exact ⟨y1, y2, y3, y4, y5, y6, y7, ⟨y8.1, y8.2.1, y8.2.2.1, y8.2.2.2.trans i19⟩, y9⟩
    have hxS : xS Xm [.ref 59] := fun v hv k e => by
      simp only [List.mem_cons, List.not_mem_nil, or_false] at hv
      subst hv
      injection e with e
      subst e
      exact Nat.le_refl _
    refine aEv_mono (aEv_frame Xm (rg_m s1 vs1) hxS E) ?_
    rintro r2 h2 ⟨⟨rfl, y1, y2, y3, y4, ⟨y51, y52, y53⟩, y6, y7, ⟨y81, y82, y83, y84⟩, y9⟩, _, sm, _⟩
    refine ⟨rfl, ?_⟩
    obtain ⟨agx, k5⟩ := sm_m sm
    have hp := (vs_p vs).1
    have hp9 : ∀ j, j ≤ 9 → p + j < 59 := fun j hj => by omega
    have sx2 : SX G p h2 := ⟨y1.1, y1.2.1, y1.2.2.1, px_same (k5 p (by omega)).1 (fun j hj => ⟨(k5 _ (hp9 j hj)).2.2.2.1, (k5 _ (hp9 j hj)).2.2.2.2.2, (k5 _ (hp9 j hj)).2.2.2.2.1⟩) x1.2.2.2.1, by rw [y7]; exact x1.2.2.2.2.1, x1.2.2.2.2.2⟩
    have rx2 : RXp [] [] h2 := rxp_ag (k5 50 (by decide)).1 ⟨(k5 51 (by decide)).2.2.2.1, (k5 51 (by decide)).2.2.2.2.2⟩ ⟨(k5 52 (by decide)).2.2.2.1, (k5 52 (by decide)).2.2.2.2.2⟩ x4
    obtain ⟨pi', po'⟩ := po_out rx2 y4
    have rm2 := y1.2.2.1
    have rq2 : Rq h2 := ⟨y2.1.2.2.1, y2.2.2.1.2.2.1, y2.2.2.1.1.2.2.2.2.2.2, bu, hbu, y2.2.2.2.2.1.2.2.2.2.2.1⟩
    have k0 := k5 0 (by decide)
    have k1 := k5 1 (by decide)
    have k2 := k5 2 (by decide)
    refine ⟨y1.1, ⟨t, t1, by rw [k0.1, e0.1]; exact t2, by rw [y81, e59.1]; exact t3, fun j hj => by rw [k1.2.2.2.1, (x7 1 (by omega)).2.2.1, y9, (x7 60 (by omega)).2.2.1]; exact t4 j hj, rm2.1.2 (1, 3000) (by decide), rm2.1.2 (60, 3000) (by decide)⟩, ⟨by rw [k2.1, (x7 2 (by omega)).1, y82, e59.1]; exact f1, by rw [k2.1, (x7 2 (by omega)).1, y83, e59.1]; exact f2⟩, pi', po', by rw [k0.1, i08, y84, i19], ?_⟩
    refine beg_fin (G := G) (p := p) (q := q) (pa := pa0) (bu := bu) (qv := qv0) ps cor0 (vs_same y7 vs1) rq2 (y84.trans i19) sx2 (rwn_ag agx x2) (by rw [(k5 47 (by decide)).1]; exact x3) (by rw [k0.2.1]; exact x5) (fun j hj => by rw [(k5 58 (by decide)).2.2.2.2.1]; exact x6 j hj) y1 y2 y3 y51 y52 y53 y6
end RST
