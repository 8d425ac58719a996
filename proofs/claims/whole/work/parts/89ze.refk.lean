/-! boxes read; giving back -/
section REK
variable {h h' : Hp} {Q : Option Value → Hp → Prop} {d : Nat} {G : PG} {q : Nat} {qv : Nat → Int64} {r n : Nat} {td : List TD} {z : RSt} {N : Int32} {md : Option Nat} {nw v : Int64} {wk : List Int64} {X : (List Nat × Nat × Option Nat) × (List Int64 × List (Nat × List Nat) × List (Int64 × Int64) × Nat × List Int64) × (List Int32 × List Int32 × Nat × Nat × Nat × Int64 × Nat)} {sl : List Nat} {bs : Nat} {pr : Option Nat} {bx : List Int64} {ps : List (Nat × List Nat)} {rl : Nat → Nat} {fl : List Nat} {pa : List (Int64 × Int64)} {ce : Nat} {gr : List Int64}
/-- MXb without its boxes -/
def MXb0 (sl : List Nat) (bs : Nat) (pr : Option Nat) (ps : List (Nat × List Nat)) (h : Hp) : Prop := (hI h 59 44 = nI sl.length ∧ sl.length ≤ hN h 121 ∧ hI h 59 45 = nI bs ∧ bs ≤ 252000 ∧ hI h 59 46 = oI pr ∧ (∀ i, pr = some i → i < ps.length) ∧ (hN h 121 = 1024 ∨ hN h 121 = 4096 ∨ hN h 121 = 16384 ∨ hN h 121 = 65536 ∨ hN h 121 = 262144)) ∧
  (hI h 59 37 = nI ps.length ∧ ps.length ≤ 40000 ∧ hN h 116 = 40001 ∧ hN h 117 = 40001 ∧ hN h 118 = 40001 ∧ hI h 59 38 = nI (kfl ps).length ∧ (kfl ps).length ≤ 40000 ∧ ∀ i L ks, ps[i]? = some (L, ks) → hA h 116 i = nI L ∧ ∃ o, hA h 117 i = nI o ∧ o + ks.length ≤ (kfl ps).length ∧ ∀ k b : Nat, ks[k]? = some b → (kfl ps)[o + k]? = some b) ∧
  (hN h 120 = hN h 119 ∧ (hN h 119 = 4096 ∨ hN h 119 = 16384 ∨ hN h 119 = 65536 ∨ hN h 119 = 300000))
theorem mxb_0 : MXb sl bs pr bx ps h ↔ MXb0 sl bs pr ps h ∧ ∃ rl fl, Bxs sl bx ps h rl fl := by
  constructor
  · rintro ⟨a, b, c, d⟩
    exact ⟨⟨a, b, c⟩, d⟩
  · rintro ⟨⟨a, b, c⟩, d⟩
    exact ⟨a, b, c, d⟩
theorem bxo_live (B : Bxs sl bx ps h rl fl) (M : MXb0 sl bs pr ps h) {b : Nat} (hb : Bxo G n (sl, bs, pr) ps b) : (b + 2 ∈ sl ∨ b ∈ kfl ps) := by
  rcases hb with ⟨_, s, _, _, e⟩ | ⟨_, j, p, L, ks, _, _, _, e1, e2⟩
  · exact Or.inl (List.mem_of_getElem? e)
  · obtain ⟨_, o, _, _, o2⟩ := M.2.1.2.2.2.2.2.2.2 p L ks e1
    exact Or.inr (List.mem_of_getElem? (o2 j b e2))
theorem sp_boxOf (S : SM G q qv h) (M : MXb0 sl bs pr ps h) (B : Bxs sl bx ps h rl fl) (hn : n < pNn G) {b : Nat} (hb : Bxo G n (sl, bs, pr) ps b) (hq : Q (some (.int (nI (rl b)))) h) : aEv d 191 [.ref 59, .int (nI n)] h Q := by
  have s := S.1
  have P := S.2.2.2.1
  have r17 := S.2.2.2.2.1
  obtain ⟨⟨k0, k1, k2, k4, k5, k6, k7, _⟩, w7, w8, w10, w11, w12, w13, _⟩ := prf s P.1
  obtain ⟨p1, p2, p3⟩ := pm_n P (j := 6) (by decide) (by decide) hn
  obtain ⟨v1, v2, v3⟩ := pm_n P (j := 7) (by decide) (by decide) hn
  have p2 : hA h (q + 6) n = G.1 26 n := p2
  have v2 : hA h (q + 7) n = G.1 27 n := v2
  obtain ⟨⟨m1, m2, m3, m4, m5, m6, m7⟩, ⟨m8, m9, m10, m11, m12, m13, m14, m15⟩, _⟩ := M
  unfold aEv
  simp only [lv_args, z_v, z_lg, z_h, z_u, z_u1, z_c, z_ct, z_sk, sbne, lst1_d, ldel, lst2_d, ldel2, z_sw, z_rok, zi, eq_self, List.map_cons, List.map_nil, List.append_nil, List.nil_append, List.cons_append, Int32.reduceLT, Int32.reduceLE, Int32.reduceAdd, Int32.reduceSub, Int32.reduceMul, Int32.reduceToInt, Int32.reduceToNatClampNeg, Int.reduceLT, Int.reduceLE, Int.reduceNeg, true_and, and_true, or_self, or_false, false_or, false_and, and_false, true_or, or_true, if_true, if_false, ne_eq, Classical.not_not, not_true_eq_false, not_false_eq_true, true_implies, false_implies, implies_true, Nat.reduceEqDiff, Nat.reduceAdd, Nat.reduceLeDiff, Nat.reduceSub, reduceCtorEq, reduceIte, b191_0, skM s, r17, k0, w12, k6]
  simp (disch := omega) only [nI_ti, nI_cl, le0N, ltNN, p1, p2, true_and]
  refine ⟨p3, ?_⟩
  try simp only [lv_args, z_v, z_lg, z_h, z_u, z_u1, z_c, z_ct, z_sk, sbne, lst1_d, ldel, lst2_d, ldel2, z_sw, z_rok, zi, eq_self, List.map_cons, List.map_nil, List.append_nil, List.nil_append, List.cons_append, Int32.reduceLT, Int32.reduceLE, Int32.reduceAdd, Int32.reduceSub, Int32.reduceMul, Int32.reduceToInt, Int32.reduceToNatClampNeg, Int.reduceLT, Int.reduceLE, Int.reduceNeg, true_and, and_true, or_self, or_false, false_or, false_and, and_false, true_or, or_true, if_true, if_false, ne_eq, Classical.not_not, not_true_eq_false, not_false_eq_true, true_implies, false_implies, implies_true, Nat.reduceEqDiff, Nat.reduceAdd, Nat.reduceLeDiff, Nat.reduceSub, reduceCtorEq, reduceIte, b191_0]
  rcases hb with ⟨c, t, t1, t2, t3⟩ | ⟨c, j, p, L, ks, j1, j2, j3, e1, e2⟩
  · refine ⟨fun c2 => absurd c c2, fun _ => ?_⟩
    have t3 : sl[bs + t]? = some (b + 2) := t3
    have hl := g_lt t3
    have ea : hA h 121 (bs + t) = nI (rl b) := by
      rcases B.1 _ _ t3 with ⟨e, _⟩ | ⟨b', e, e2⟩
      · omega
      · have : b' = b := by omega
        subst this
        exact e2
    simp only [lv_args, z_v, z_lg, z_h, z_u, z_u1, z_c, z_ct, z_sk, sbne, lst1_d, ldel, lst2_d, ldel2, z_sw, z_rok, zi, eq_self, List.map_cons, List.map_nil, List.append_nil, List.nil_append, List.cons_append, Int32.reduceLT, Int32.reduceLE, Int32.reduceAdd, Int32.reduceSub, Int32.reduceMul, Int32.reduceToInt, Int32.reduceToNatClampNeg, Int.reduceLT, Int.reduceLE, Int.reduceNeg, true_and, and_true, or_self, or_false, false_or, false_and, and_false, true_or, or_true, if_true, if_false, ne_eq, Classical.not_not, not_true_eq_false, not_false_eq_true, true_implies, false_implies, implies_true, Nat.reduceEqDiff, Nat.reduceAdd, Nat.reduceLeDiff, Nat.reduceSub, reduceCtorEq, reduceIte, b191_13, skM s, srM s, r17, k0, w13, k7, m3]
    simp (disch := omega) only [nI_ti, nI_cl, le0N, ltNN, v1, v2, t2, nI_add, true_and]
    refine ⟨v3, ?_⟩
    try simp only [lv_args, z_v, z_lg, z_h, z_u, z_u1, z_c, z_ct, z_sk, sbne, lst1_d, ldel, lst2_d, ldel2, z_sw, z_rok, zi, eq_self, List.map_cons, List.map_nil, List.append_nil, List.nil_append, List.cons_append, Int32.reduceLT, Int32.reduceLE, Int32.reduceAdd, Int32.reduceSub, Int32.reduceMul, Int32.reduceToInt, Int32.reduceToNatClampNeg, Int.reduceLT, Int.reduceLE, Int.reduceNeg, true_and, and_true, or_self, or_false, false_or, false_and, and_false, true_or, or_true, if_true, if_false, ne_eq, Classical.not_not, not_true_eq_false, not_false_eq_true, true_implies, false_implies, implies_true, Nat.reduceEqDiff, Nat.reduceAdd, Nat.reduceLeDiff, Nat.reduceSub, reduceCtorEq, reduceIte, b191_13]
    simp (disch := omega) only [nI_ti, nI_cl, le0N, ltNN, ea, true_and]
    refine ⟨by omega, ?_⟩
    try simp only [lv_args, z_v, z_lg, z_h, z_u, z_u1, z_c, z_ct, z_sk, sbne, lst1_d, ldel, lst2_d, ldel2, z_sw, z_rok, zi, eq_self, List.map_cons, List.map_nil, List.append_nil, List.nil_append, List.cons_append, Int32.reduceLT, Int32.reduceLE, Int32.reduceAdd, Int32.reduceSub, Int32.reduceMul, Int32.reduceToInt, Int32.reduceToNatClampNeg, Int.reduceLT, Int.reduceLE, Int.reduceNeg, true_and, and_true, or_self, or_false, false_or, false_and, and_false, true_or, or_true, if_true, if_false, ne_eq, Classical.not_not, not_true_eq_false, not_false_eq_true, true_implies, false_implies, implies_true, Nat.reduceEqDiff, Nat.reduceAdd, Nat.reduceLeDiff, Nat.reduceSub, reduceCtorEq, reduceIte, b191_13, b191_59]
    exact hq
  · have n1 : ¬ G.1 26 n = 1 := by rw [c]; decide
    refine ⟨fun _ => ?_, fun c2 => absurd c2 n1⟩
    have j3 : pr = some p := j3
    have e46 : hI h 59 46 = nI p := by rw [m5, j3]; rfl
    have hpl := m6 p j3
    obtain ⟨_, o, o1, o2, o3⟩ := m15 p L ks e1
    have ek := o3 j b e2
    have hk := g_lt ek
    have ea := B.2.1 _ _ ek
    simp only [lv_args, z_v, z_lg, z_h, z_u, z_u1, z_c, z_ct, z_sk, sbne, lst1_d, ldel, lst2_d, ldel2, z_sw, z_rok, zi, eq_self, List.map_cons, List.map_nil, List.append_nil, List.nil_append, List.cons_append, Int32.reduceLT, Int32.reduceLE, Int32.reduceAdd, Int32.reduceSub, Int32.reduceMul, Int32.reduceToInt, Int32.reduceToNatClampNeg, Int.reduceLT, Int.reduceLE, Int.reduceNeg, true_and, and_true, or_self, or_false, false_or, false_and, and_false, true_or, or_true, if_true, if_false, ne_eq, Classical.not_not, not_true_eq_false, not_false_eq_true, true_implies, false_implies, implies_true, Nat.reduceEqDiff, Nat.reduceAdd, Nat.reduceLeDiff, Nat.reduceSub, reduceCtorEq, reduceIte, b191_35, skM s, srM s, r17, k0, w13, k7, e46]
    simp (disch := omega) only [nI_ti, nI_cl, le0N, ltNN, m11, o1, v1, v2, j2, nI_add, true_and]
    refine ⟨by omega, v3, ?_⟩
    try simp only [lv_args, z_v, z_lg, z_h, z_u, z_u1, z_c, z_ct, z_sk, sbne, lst1_d, ldel, lst2_d, ldel2, z_sw, z_rok, zi, eq_self, List.map_cons, List.map_nil, List.append_nil, List.nil_append, List.cons_append, Int32.reduceLT, Int32.reduceLE, Int32.reduceAdd, Int32.reduceSub, Int32.reduceMul, Int32.reduceToInt, Int32.reduceToNatClampNeg, Int.reduceLT, Int.reduceLE, Int.reduceNeg, true_and, and_true, or_self, or_false, false_or, false_and, and_false, true_or, or_true, if_true, if_false, ne_eq, Classical.not_not, not_true_eq_false, not_false_eq_true, true_implies, false_implies, implies_true, Nat.reduceEqDiff, Nat.reduceAdd, Nat.reduceLeDiff, Nat.reduceSub, reduceCtorEq, reduceIte, b191_35]
    simp (disch := omega) only [nI_ti, nI_cl, le0N, ltNN, m12, ea, true_and]
    refine ⟨by omega, ?_⟩
    try simp only [lv_args, z_v, z_lg, z_h, z_u, z_u1, z_c, z_ct, z_sk, sbne, lst1_d, ldel, lst2_d, ldel2, z_sw, z_rok, zi, eq_self, List.map_cons, List.map_nil, List.append_nil, List.nil_append, List.cons_append, Int32.reduceLT, Int32.reduceLE, Int32.reduceAdd, Int32.reduceSub, Int32.reduceMul, Int32.reduceToInt, Int32.reduceToNatClampNeg, Int.reduceLT, Int.reduceLE, Int.reduceNeg, true_and, and_true, or_self, or_false, false_or, false_and, and_false, true_or, or_true, if_true, if_false, ne_eq, Classical.not_not, not_true_eq_false, not_false_eq_true, true_implies, false_implies, implies_true, Nat.reduceEqDiff, Nat.reduceAdd, Nat.reduceLeDiff, Nat.reduceSub, reduceCtorEq, reduceIte, b191_35, b191_59]
    exact hq
theorem sp_valOf (S : SM G q qv h) (hd : 1 < d) (M : MXb0 sl bs pr ps h) (B : Bxs sl bx ps h rl fl) (hs : MXs pa ce gr h) (hn : n < pNn G) (hv : Rdv G n (sl, bs, pr) bx ps gr v) (hq : Q (some (.long v)) h) : aEv d 270 [.ref 59, .int (nI n)] h Q := by
  have s := S.1
  have P := S.2.2.2.1
  have r17 := S.2.2.2.2.1
  have h0 : 0 < d := by omega
  obtain ⟨⟨k0, k1, k2, k4, k5, k6, k7, _⟩, w7, w8, w10, w11, w12, w13, _⟩ := prf s P.1
  obtain ⟨p1, p2, p3⟩ := pm_n P (j := 6) (by decide) (by decide) hn
  obtain ⟨v1, v2, v3⟩ := pm_n P (j := 7) (by decide) (by decide) hn
  have p2 : hA h (q + 6) n = G.1 26 n := p2
  have v2 : hA h (q + 7) n = G.1 27 n := v2
  obtain ⟨g1, g2, g3, g4, g5, g6, g7, g8, g9, g10⟩ := hs
  unfold aEv
  simp only [lv_args, z_v, z_lg, z_h, z_u, z_u1, z_c, z_ct, z_sk, sbne, lst1_d, ldel, lst2_d, ldel2, z_rok, zi, eq_self, List.map_cons, List.map_nil, List.append_nil, List.nil_append, List.cons_append, Int32.reduceLT, Int32.reduceLE, Int32.reduceAdd, Int32.reduceSub, Int32.reduceMul, Int32.reduceToInt, Int32.reduceToNatClampNeg, Int.reduceLT, Int.reduceLE, Int.reduceNeg, true_and, and_true, or_self, or_false, false_or, false_and, and_false, true_or, or_true, if_true, if_false, ne_eq, Classical.not_not, not_true_eq_false, not_false_eq_true, true_implies, false_implies, implies_true, Nat.reduceEqDiff, Nat.reduceAdd, Nat.reduceLeDiff, Nat.reduceSub, reduceCtorEq, reduceIte, b270_0, skM s, r17, k0, w12, k6]
  simp (disch := omega) only [nI_ti, nI_cl, le0N, ltNN, p1, p2, true_and]
  refine ⟨p3, ?_⟩
  try simp only [lv_args, z_v, z_lg, z_h, z_u, z_u1, z_c, z_ct, z_sk, sbne, lst1_d, ldel, lst2_d, ldel2, z_rok, zi, eq_self, List.map_cons, List.map_nil, List.append_nil, List.nil_append, List.cons_append, Int32.reduceLT, Int32.reduceLE, Int32.reduceAdd, Int32.reduceSub, Int32.reduceMul, Int32.reduceToInt, Int32.reduceToNatClampNeg, Int.reduceLT, Int.reduceLE, Int.reduceNeg, true_and, and_true, or_self, or_false, false_or, false_and, and_false, true_or, or_true, if_true, if_false, ne_eq, Classical.not_not, not_true_eq_false, not_false_eq_true, true_implies, false_implies, implies_true, Nat.reduceEqDiff, Nat.reduceAdd, Nat.reduceLeDiff, Nat.reduceSub, reduceCtorEq, reduceIte, b270_0]
  refine sw_at ?_
  rcases hv with ⟨b, b1, b2⟩ | ⟨c, g, c1, c2, c3⟩ | ⟨c, i, c1, c2, rfl⟩
  · have t : swL [(3, 36), (4, 51)] (G.1 26 n) 66 = 66 := by
      rcases b1 with ⟨e, _⟩ | ⟨e, _⟩ <;> rw [e] <;> rfl
    rw [t]
    obtain ⟨x1, x, x2, x3⟩ := B.2.2.1 b (bxo_live B M b1)
    rw [b2] at x2
    injection x2 with x2
    subst x2
    have hN : hN h 119 ≤ 300000 := by
      rcases M.2.2.2 with e | e | e | e <;> omega
    simp only [lv_args, z_v, z_lg, z_h, z_u, z_u1, z_c, z_ct, z_sk, sbne, lst1_d, ldel, lst2_d, ldel2, z_sw, z_rok, zi, eq_self, List.map_cons, List.map_nil, List.append_nil, List.nil_append, List.cons_append, Int32.reduceLT, Int32.reduceLE, Int32.reduceAdd, Int32.reduceSub, Int32.reduceMul, Int32.reduceToInt, Int32.reduceToNatClampNeg, Int.reduceLT, Int.reduceLE, Int.reduceNeg, true_and, and_true, or_self, or_false, false_or, false_and, and_false, true_or, or_true, if_true, if_false, ne_eq, Classical.not_not, not_true_eq_false, not_false_eq_true, true_implies, false_implies, implies_true, Nat.reduceEqDiff, Nat.reduceAdd, Nat.reduceLeDiff, Nat.reduceSub, reduceCtorEq, reduceIte, b270_66, skM s, srM s, h0]
    refine sp_boxOf S M B hn b1 ?_
    simp only [lv_args, z_v, z_lg, z_h, z_u, z_u1, z_c, z_ct, z_sk, sbne, lst1_d, ldel, lst2_d, ldel2, z_sw, z_rok, zi, eq_self, List.map_cons, List.map_nil, List.append_nil, List.nil_append, List.cons_append, Int32.reduceLT, Int32.reduceLE, Int32.reduceAdd, Int32.reduceSub, Int32.reduceMul, Int32.reduceToInt, Int32.reduceToNatClampNeg, Int.reduceLT, Int.reduceLE, Int.reduceNeg, true_and, and_true, or_self, or_false, false_or, false_and, and_false, true_or, or_true, if_true, if_false, ne_eq, Classical.not_not, not_true_eq_false, not_false_eq_true, true_implies, false_implies, implies_true, Nat.reduceEqDiff, Nat.reduceAdd, Nat.reduceLeDiff, Nat.reduceSub, reduceCtorEq, reduceIte, b270_66, skM s, srM s]
    simp (disch := omega) only [nI_ti, nI_cl, le0N, ltNN, x3, true_and]
    refine ⟨x1, ?_⟩
    try simp only [lv_args, z_v, z_lg, z_h, z_u, z_u1, z_c, z_ct, z_sk, sbne, lst1_d, ldel, lst2_d, ldel2, z_sw, z_rok, zi, eq_self, List.map_cons, List.map_nil, List.append_nil, List.nil_append, List.cons_append, Int32.reduceLT, Int32.reduceLE, Int32.reduceAdd, Int32.reduceSub, Int32.reduceMul, Int32.reduceToInt, Int32.reduceToNatClampNeg, Int.reduceLT, Int.reduceLE, Int.reduceNeg, true_and, and_true, or_self, or_false, false_or, false_and, and_false, true_or, or_true, if_true, if_false, ne_eq, Classical.not_not, not_true_eq_false, not_false_eq_true, true_implies, false_implies, implies_true, Nat.reduceEqDiff, Nat.reduceAdd, Nat.reduceLeDiff, Nat.reduceSub, reduceCtorEq, reduceIte, b270_66]
    exact hq
  · have t : swL [(3, 36), (4, 51)] (G.1 26 n) 66 = 36 := by rw [c]; rfl
    rw [t]
    have e := g10 g v c3
    simp only [lv_args, z_v, z_lg, z_h, z_u, z_u1, z_c, z_ct, z_sk, sbne, lst1_d, ldel, lst2_d, ldel2, z_sw, z_rok, zi, eq_self, List.map_cons, List.map_nil, List.append_nil, List.nil_append, List.cons_append, Int32.reduceLT, Int32.reduceLE, Int32.reduceAdd, Int32.reduceSub, Int32.reduceMul, Int32.reduceToInt, Int32.reduceToNatClampNeg, Int.reduceLT, Int.reduceLE, Int.reduceNeg, true_and, and_true, or_self, or_false, false_or, false_and, and_false, true_or, or_true, if_true, if_false, ne_eq, Classical.not_not, not_true_eq_false, not_false_eq_true, true_implies, false_implies, implies_true, Nat.reduceEqDiff, Nat.reduceAdd, Nat.reduceLeDiff, Nat.reduceSub, reduceCtorEq, reduceIte, b270_36, skM s, srM s, r17, k0, w13, k7]
    simp (disch := omega) only [nI_ti, nI_cl, le0N, ltNN, v1, v2, c2, true_and]
    refine ⟨v3, ?_⟩
    try simp only [lv_args, z_v, z_lg, z_h, z_u, z_u1, z_c, z_ct, z_sk, sbne, lst1_d, ldel, lst2_d, ldel2, z_sw, z_rok, zi, eq_self, List.map_cons, List.map_nil, List.append_nil, List.nil_append, List.cons_append, Int32.reduceLT, Int32.reduceLE, Int32.reduceAdd, Int32.reduceSub, Int32.reduceMul, Int32.reduceToInt, Int32.reduceToNatClampNeg, Int.reduceLT, Int.reduceLE, Int.reduceNeg, true_and, and_true, or_self, or_false, false_or, false_and, and_false, true_or, or_true, if_true, if_false, ne_eq, Classical.not_not, not_true_eq_false, not_false_eq_true, true_implies, false_implies, implies_true, Nat.reduceEqDiff, Nat.reduceAdd, Nat.reduceLeDiff, Nat.reduceSub, reduceCtorEq, reduceIte, b270_36]
    simp (disch := omega) only [nI_ti, nI_cl, le0N, ltNN, g8, e, true_and]
    refine ⟨by omega, ?_⟩
    try simp only [lv_args, z_v, z_lg, z_h, z_u, z_u1, z_c, z_ct, z_sk, sbne, lst1_d, ldel, lst2_d, ldel2, z_sw, z_rok, zi, eq_self, List.map_cons, List.map_nil, List.append_nil, List.nil_append, List.cons_append, Int32.reduceLT, Int32.reduceLE, Int32.reduceAdd, Int32.reduceSub, Int32.reduceMul, Int32.reduceToInt, Int32.reduceToNatClampNeg, Int.reduceLT, Int.reduceLE, Int.reduceNeg, true_and, and_true, or_self, or_false, false_or, false_and, and_false, true_or, or_true, if_true, if_false, ne_eq, Classical.not_not, not_true_eq_false, not_false_eq_true, true_implies, false_implies, implies_true, Nat.reduceEqDiff, Nat.reduceAdd, Nat.reduceLeDiff, Nat.reduceSub, reduceCtorEq, reduceIte, b270_36]
    exact hq
  · have t : swL [(3, 36), (4, 51)] (G.1 26 n) 66 = 51 := by rw [c]; rfl
    rw [t]
    simp only [lv_args, z_v, z_lg, z_h, z_u, z_u1, z_c, z_ct, z_sk, sbne, lst1_d, ldel, lst2_d, ldel2, z_sw, z_rok, zi, eq_self, List.map_cons, List.map_nil, List.append_nil, List.nil_append, List.cons_append, Int32.reduceLT, Int32.reduceLE, Int32.reduceAdd, Int32.reduceSub, Int32.reduceMul, Int32.reduceToInt, Int32.reduceToNatClampNeg, Int.reduceLT, Int.reduceLE, Int.reduceNeg, true_and, and_true, or_self, or_false, false_or, false_and, and_false, true_or, or_true, if_true, if_false, ne_eq, Classical.not_not, not_true_eq_false, not_false_eq_true, true_implies, false_implies, implies_true, Nat.reduceEqDiff, Nat.reduceAdd, Nat.reduceLeDiff, Nat.reduceSub, reduceCtorEq, reduceIte, b270_51, skM s, srM s, r17, k0, w13, k7, h0]
    simp (disch := omega) only [nI_ti, nI_cl, le0N, ltNN, v1, v2, c2, true_and]
    refine ⟨v3, ?_⟩
    try simp only [lv_args, z_v, z_lg, z_h, z_u, z_u1, z_c, z_ct, z_sk, sbne, lst1_d, ldel, lst2_d, ldel2, z_sw, z_rok, zi, eq_self, List.map_cons, List.map_nil, List.append_nil, List.nil_append, List.cons_append, Int32.reduceLT, Int32.reduceLE, Int32.reduceAdd, Int32.reduceSub, Int32.reduceMul, Int32.reduceToInt, Int32.reduceToNatClampNeg, Int.reduceLT, Int.reduceLE, Int.reduceNeg, true_and, and_true, or_self, or_false, false_or, false_and, and_false, true_or, or_true, if_true, if_false, ne_eq, Classical.not_not, not_true_eq_false, not_false_eq_true, true_implies, false_implies, implies_true, Nat.reduceEqDiff, Nat.reduceAdd, Nat.reduceLeDiff, Nat.reduceSub, reduceCtorEq, reduceIte, b270_51, h0, e269v]
    exact hq
/-- an error ends the run -/
theorem pr_er {e : Nat} {h1 : Hp} (s : Sk h1) (e1 : 0 < e) (e2 : e < 8) (e3 : hI h1 59 68 = nI e) (hq : aWP d 257 35 (LR N) [] (pI h1 59 69 (nI (10 + e))) Q) : PR d N Q none h1 := by
  refine ⟨rfl, s, fun c => ?_, fun e' p1 p2 p3 => ?_, Or.inr ⟨e, e1, e2, e3⟩⟩
  · rw [e3] at c
    have := nI_inj (a := e) (b := 0) (by omega) (by omega) c
    omega
  · rw [e3] at p3
    have := nI_inj (a := e) (b := e') (by omega) (by omega) p3
    subst this
    exact hq
/-- the heap of an error -/
def hEr (h : Hp) (e : Nat) : Hp := pI (pI h 59 68 (nI e)) 59 69 (nI (10 + e))
theorem rs_v {e' : List Nat × Nat × Option Nat} {P : List Int32 × List Int32 × Nat × Nat × Nat × Int64 × Nat} (hn : n < pNn G) (h3 : G.1 21 n = 3) (hv : Rdv G n e' bx ps gr v) (r : RM G q qv ((some n, nw, td, wk), e', (bx, ps, pa, ce, gr), P) h) (hd : 10 < d) (h1 : v = vof 9 0 → aWP d 257 35 (LR N) [] (hEr h 5) Q) (h2 : v ≠ vof 9 0 → ∀ h', RM G q qv ((none, v, td, wk), e', (bx, ps, pa, ce, gr), P) h' → aWP d 257 35 (LR N) [] h' Q) : aWP d 257 35 (LR N) [] h Q := by
  have S := r.1
  have s := S.1
  have h0 : 0 < d - 1 := by omega
  obtain ⟨sl, bs, pr⟩ := e'
  obtain ⟨M, rl, fl, B⟩ := mxb_0.mp r.2.2.2.2.1
  have ef : (38654705664 : Int64) = vof 9 0 := by decide
  refine ls_go r (by omega) (wk_kd S hn h0 (t := 84) (by rw [h3]; rfl) ?_)
  simp only [lv_args, z_v, z_lg, z_h, z_u, z_u1, z_c, z_ct, z_sk, sbne, lst1_d, ldel, lst2_d, ldel2, z_sw, z_rok, zi, eq_self, List.map_cons, List.map_nil, List.append_nil, List.nil_append, List.cons_append, Int32.reduceLT, Int32.reduceLE, Int32.reduceAdd, Int32.reduceSub, Int32.reduceMul, Int32.reduceToInt, Int32.reduceToNatClampNeg, Int.reduceLT, Int.reduceLE, Int.reduceNeg, true_and, and_true, or_self, or_false, false_or, false_and, and_false, true_or, or_true, if_true, if_false, ne_eq, Classical.not_not, not_true_eq_false, not_false_eq_true, true_implies, false_implies, implies_true, Nat.reduceEqDiff, Nat.reduceAdd, Nat.reduceLeDiff, Nat.reduceSub, reduceCtorEq, reduceIte, b276_84, skM s, h0]
  refine sp_valOf S (by omega) M B r.2.2.2.2.2.1 hn hv ?_
  simp only [lv_args, z_v, z_lg, z_h, z_u, z_u1, z_c, z_ct, z_sk, sbne, lst1_d, ldel, lst2_d, ldel2, z_sw, z_rok, zi, eq_self, List.map_cons, List.map_nil, List.append_nil, List.nil_append, List.cons_append, Int32.reduceLT, Int32.reduceLE, Int32.reduceAdd, Int32.reduceSub, Int32.reduceMul, Int32.reduceToInt, Int32.reduceToNatClampNeg, Int.reduceLT, Int.reduceLE, Int.reduceNeg, true_and, and_true, or_self, or_false, false_or, false_and, and_false, true_or, or_true, if_true, if_false, ne_eq, Classical.not_not, not_true_eq_false, not_false_eq_true, true_implies, false_implies, implies_true, Nat.reduceEqDiff, Nat.reduceAdd, Nat.reduceLeDiff, Nat.reduceSub, reduceCtorEq, reduceIte, b276_84, cmp_0, ef]
  refine ⟨fun c => ?_, fun c => ?_⟩
  · simp only [lv_args, z_v, z_lg, z_h, z_u, z_u1, z_c, z_ct, z_sk, sbne, lst1_d, ldel, lst2_d, ldel2, z_sw, z_rok, zi, eq_self, List.map_cons, List.map_nil, List.append_nil, List.nil_append, List.cons_append, Int32.reduceLT, Int32.reduceLE, Int32.reduceAdd, Int32.reduceSub, Int32.reduceMul, Int32.reduceToInt, Int32.reduceToNatClampNeg, Int.reduceLT, Int.reduceLE, Int.reduceNeg, true_and, and_true, or_self, or_false, false_or, false_and, and_false, true_or, or_true, if_true, if_false, ne_eq, Classical.not_not, not_true_eq_false, not_false_eq_true, true_implies, false_implies, implies_true, Nat.reduceEqDiff, Nat.reduceAdd, Nat.reduceLeDiff, Nat.reduceSub, reduceCtorEq, reduceIte, b276_106, skM s, h0, e219_59 _ _ s, b276_111]
    exact pr_ok (rm_is r) (h2 c)
  · simp only [lv_args, z_v, z_lg, z_h, z_u, z_u1, z_c, z_ct, z_sk, sbne, lst1_d, ldel, lst2_d, ldel2, z_sw, z_rok, zi, eq_self, List.map_cons, List.map_nil, List.append_nil, List.nil_append, List.cons_append, Int32.reduceLT, Int32.reduceLE, Int32.reduceAdd, Int32.reduceSub, Int32.reduceMul, Int32.reduceToInt, Int32.reduceToNatClampNeg, Int.reduceLT, Int.reduceLE, Int.reduceNeg, true_and, and_true, or_self, or_false, false_or, false_and, and_false, true_or, or_true, if_true, if_false, ne_eq, Classical.not_not, not_true_eq_false, not_false_eq_true, true_implies, false_implies, implies_true, Nat.reduceEqDiff, Nat.reduceAdd, Nat.reduceLeDiff, Nat.reduceSub, reduceCtorEq, reduceIte, b276_98, b276_111, skM s]
    exact pr_er (e := 5) ((sk_same rfl rfl rfl : Sk _ = Sk h) ▸ s) (by decide) (by decide) rfl (h1 c)
theorem rs_1 {y y' : RSt} (hr : RS1 G qv 1 y y') (r : RM G q qv y h) (hd : 10 < d) (hq : ∀ h', RM G q qv y' h' → aWP d 257 35 (LR N) [] h' Q) : aWP d 257 35 (LR N) [] h Q := by
  obtain ⟨⟨md, nw, td, wk⟩, e, ⟨bx, ps, pa, ce, gr⟩, P⟩ := y
  cases md with
  | none => exact hr.elim
  | some n =>
    obtain ⟨hn, h3, v, hv, hne, rfl⟩ := hr
    exact rs_v hn h3 hv r hd (fun c => absurd c hne) (fun _ => hq)
theorem rs_21 {y y' : RSt} (hr : RS1 G qv 21 y y') (r : RM G q qv y h) (hd : 10 < d) (hq : ∀ h', RM G q qv y' h' → aWP d 257 35 (LR N) [] h' Q) : aWP d 257 35 (LR N) [] h Q := by
  obtain ⟨⟨md, nw, td0, wk⟩, ⟨sl, bs, pr⟩, ⟨bx, ps, pa, ce, gr⟩, ⟨inp, out, th, op, st, lt, bu⟩⟩ := y
  match md, td0, hr with
  | none, (8, n, m) :: td, hr =>
    obtain ⟨b, rp, rfl, hb1, hb2, rfl, hop, hpr, rfl⟩ := hr
    have r' := rm_pop r
    have s := r.1.1
    have h0 : 0 < d - 1 := by omega
    have r5 := r'.2.2.2.2.1
    obtain ⟨⟨⟨m1, m2, m3, m4, m5, m6, m7⟩, M2, M3⟩, rl, fl, B⟩ := mxb_0.mp r5
    have e45 : hI h 59 45 = nI bs := m3
    have e59 : hI h 59 59 = nI op := r.2.2.2.2.2.2.2.1.2.1
    have e1 : nI op - 1 = nI (op - 1) := by
      obtain ⟨k, rfl⟩ : ∃ k, op = k + 1 := ⟨op - 1, by omega⟩
      exact nI_m1
    refine vl_go r (by omega) (t := 264) rfl ?_
    simp only [lv_args, z_v, z_lg, z_h, z_u, z_u1, z_c, z_ct, z_sk, sbne, lst1_d, ldel, lst2_d, ldel2, z_sw, z_rok, zi, eq_self, List.map_cons, List.map_nil, List.append_nil, List.nil_append, List.cons_append, Int32.reduceLT, Int32.reduceLE, Int32.reduceAdd, Int32.reduceSub, Int32.reduceMul, Int32.reduceToInt, Int32.reduceToNatClampNeg, Int.reduceLT, Int.reduceLE, Int.reduceNeg, true_and, and_true, or_self, or_false, false_or, false_and, and_false, true_or, or_true, if_true, if_false, ne_eq, Classical.not_not, not_true_eq_false, not_false_eq_true, true_implies, false_implies, implies_true, Nat.reduceEqDiff, Nat.reduceAdd, Nat.reduceLeDiff, Nat.reduceSub, reduceCtorEq, reduceIte, b213_264, b213_300, skM s, e45, e59, e1]
    refine pr_ok (z' := ((none, nw, td, wk), (sl.take bs, b, rp), (bx, ps, pa, ce, gr), (inp, out, th, op - 1, st, lt, bu))) ?_ hq
    obtain ⟨a1, a2, a3, a4, a5, a6, a7, ⟨d1, d2, d3, d4, d5, d6, d7⟩, a9, a10, a11⟩ := r'
    have d3 : op ≤ 1000 := d3
    have hbs : bs ≤ 252000 := m4
    have hlt : (sl.take bs).length = bs := by simp; omega
    refine ⟨sm_I (sm_I (sm_I (sm_I a1))), a2, a3, a4, mxb_0.mpr ⟨⟨⟨by rw [hlt]; rfl, ?_, rfl, show b ≤ 252000 by omega, rfl, hpr, m7⟩, M2, M3⟩, rl, fl, ?_⟩, a6, a7, ⟨d1, rfl, show op - 1 ≤ 1000 by omega, d4, d5, d6, d7⟩, a9, a10, a11⟩
    · rw [hlt]
      have m2 : sl.length ≤ hN h 121 := m2
      show bs ≤ hN h 121
      omega
    · obtain ⟨B1, B2, B3, B4, B5, B6, B7⟩ := B
      have live : ∀ b, (b + 2 ∈ sl.take bs ∨ b ∈ kfl ps) → (b + 2 ∈ sl ∨ b ∈ kfl ps) := fun b hb => hb.imp (fun z => List.mem_of_mem_take z) id
      refine ⟨fun j c e => B1 j c ?_, B2, fun b hb => B3 b (live b hb), fun b b' hb hb' e => B4 b b' (live b hb) (live b' hb') e, B5, B6, fun f hf => ⟨(B7 f hf).1, fun b hb => (B7 f hf).2 b (live b hb)⟩⟩
      have hj := g_lt e
      rw [hlt] at hj
      have e : (sl.take bs)[j]? = some c := e
      rwa [List.getElem?_take_of_lt hj] at e
end REK
