/-! BUILD. The reference: a datum -/
section MDU
variable {h h' h0 : Hp} {Q : Option Value → Hp → Prop} {d n q g a b i lv : Nat} {N : NS} {mt : List Nat} {T0 : List TK} {PF PX : Nat → Prop} {e : SE}
/-- a part that is neither list nor quote -/
theorem sp_leaf {f : Nat} {x : TK} {T : List TK} {k' : Int32} (m : RMt T0 mt q h0) (hT : T0.drop i = x :: T) (S : RS N mt q PF PX i lv h0 h) (he : Eo N e) (h6 : nK N e.1 = 6) (h1 : 1 ≤ N.1) (hN2 : N.1 ≤ 6200) (h5 : 5 ≤ x.1) (ek : k' = rkd (tkK x.1)) {v' : Int32} (ev : v' = if tkK x.1 = 5 then nI (mt.idxOf x.2.2.toInt.toNat) else if tkK x.1 = 1 then x.2.2 else 0) (hq1 : (rd (f + 1) 9 (x :: T) N e lv).1 = none → ∀ h' i', T0.drop i' = (rd (f + 1) 9 (x :: T) N e lv).2.1 → RS (rd (f + 1) 9 (x :: T) N e lv).2.2.1 mt q (pdF e PF) (pdX e PX) i' lv h0 h' → hI h' q 3 = hI h q 3 → hI h' q 2 = hI h q 2 → Q (some (.int (nI (N.1 - 1)))) h') : aEv d 241 [.ref 59, .int k', .int v', .int (nI x.2.1)] (pI h 59 10 (nI (i + 1))) Q := by
  obtain ⟨hx, hT1⟩ := drop_get hT
  have hq66 := rm_q m
  rw [rd_95 h5] at hq1
  have S1 : RS N mt q PF PX (i + 1) lv h0 (pI h 59 10 (nI (i + 1))) := ⟨kr_I S.1 (by omega), by have := S.2.1; rcases hq66 with rfl | rfl <;> exact this, rfl, S.2.2.2⟩
  refine sp_node (k := tkK x.1) (v := x.2.2) m S1 he h6 h1 hN2 ek ev (fun h2 S2 a3 a2 => hq1 rfl h2 (i + 1) hT1 S2 ?_ ?_)
  · rw [a3]; rcases hq66 with rfl | rfl <;> rfl
  · rw [a2]; rcases hq66 with rfl | rfl <;> rfl
theorem sp_mdatum (m : RMt T0 mt q h0) {f : Nat} (r9 : R9s T0 mt q h0 f) (r3 : R3s T0 mt q h0 f) : R9s T0 mt q h0 (f + 1) := by
  intro T N e lv i PF PX h d Q wt hT he h6 h1 hlv hf hNb S hd hq1 hq2
  have h00 : 0 < d := by omega
  have hq66 := rm_q m
  cases T with
  | nil => exact wt.elim
  | cons x T =>
  obtain ⟨hx, hT1⟩ := drop_get hT
  have hi := g_lt hx
  have S0 := S
  obtain ⟨ky, H, e10, e11⟩ := S
  have m1 := rm_k ky m
  have s := m1.1.1
  have R := rm_R m1
  obtain ⟨t1, t8, t2⟩ := m1.2.2
  obtain ⟨x1, x2, x3⟩ := t2 i x hx
  have hx8 := t8 x (List.mem_of_getElem? hx)
  obtain ⟨n62, n63, n64⟩ := rm_n m1
  have c2 : (i < 3002) = True := eq_true (by omega)
  have eN := he.1
  simp only [List.length_cons] at hf hNb
  have s10 : Sk (pI h 59 10 (nI (i + 1))) := sk_u1 s
  have z1 : (1 : Int32) = nI 1 := rfl
  have z6 : (6 : Int32) = nI 6 := rfl
  -- what is wrong
  have wrong : x.1 ≤ 1 ∨ x.1 = 3 → aWP d 199 160 [(1, .int (nI i)), (0, .ref 59)] [] h Q := fun c => by
    have P : ∀ h', KYt q h0 h' → hI h' 59 13 = nI 1 → hI h' 59 14 = nI x.2.1 → Q (some (.retAddr 65)) h' := hq2 1 x.2.1 (by rw [rd_9b c])
    simp only [lv_args, z_v, z_lg, z_h, z_u, z_u1, z_c, z_ct, z_sk, sbne, lst1_d, ldel, lst2_d, ldel2, z_sw, z_rok, zi, eq_self, List.map_cons, List.map_nil, List.append_nil, List.nil_append, List.cons_append, Int32.reduceLT, Int32.reduceLE, Int32.reduceAdd, Int32.reduceSub, Int32.reduceMul, Int32.reduceToInt, Int32.reduceToNatClampNeg, Int.reduceLT, Int.reduceLE, Int.reduceNeg, true_and, and_true, or_self, or_false, false_or, false_and, and_false, true_or, or_true, if_true, if_false, ne_eq, Classical.not_not, not_true_eq_false, not_false_eq_true, true_implies, false_implies, implies_true, Nat.reduceEqDiff, Nat.reduceAdd, Nat.reduceLeDiff, Nat.reduceSub, reduceCtorEq, reduceIte, b199_160, skM s, h00, z1]
    refine sp_bad m S0 hx (fun h' k' a1 a2 => ?_)
    have s' := (rm_t k' m).1.1
    have P2 := P h' k' a1 a2
    simp only [lv_args, z_v, z_lg, z_h, z_u, z_u1, z_c, z_ct, z_sk, sbne, lst1_d, ldel, lst2_d, ldel2, z_sw, z_rok, zi, eq_self, List.map_cons, List.map_nil, List.append_nil, List.nil_append, List.cons_append, Int32.reduceLT, Int32.reduceLE, Int32.reduceAdd, Int32.reduceSub, Int32.reduceMul, Int32.reduceToInt, Int32.reduceToNatClampNeg, Int.reduceLT, Int.reduceLE, Int.reduceNeg, true_and, and_true, or_self, or_false, false_or, false_and, and_false, true_or, or_true, if_true, if_false, ne_eq, Classical.not_not, not_true_eq_false, not_false_eq_true, true_implies, false_implies, implies_true, Nat.reduceEqDiff, Nat.reduceAdd, Nat.reduceLeDiff, Nat.reduceSub, reduceCtorEq, reduceIte, b199_160, skM s, skM s', Nat.reduceLT]
    exact P2
  -- a list
  have lst : x.1 = 2 → aWP d 199 155 [(1, .int (nI i)), (0, .ref 59)] [] h Q := fun c => by
    obtain ⟨w1, w2⟩ := wt_c wt (by omega)
    have call : ∀ Q' : Option Value → Hp → Prop, ((rd (f + 1) 9 (x :: T) N e lv).1 = none → ∀ h' i', T0.drop i' = (rd (f + 1) 9 (x :: T) N e lv).2.1 → RS (rd (f + 1) 9 (x :: T) N e lv).2.2.1 mt q (pdF e PF) (pdX e PX) i' lv h0 h' → hI h' q 3 = hI h q 3 → hI h' q 2 = hI h q 2 → Q' (some (.int (nI (N.1 - 1)))) h') → (∀ k p, (rd (f + 1) 9 (x :: T) N e lv).1 = some (k, p) → ∀ h', KYt q h0 h' → hI h' 59 13 = nI k → hI h' 59 14 = nI p → Q' (some (.retAddr 65)) h') → aEv (d - 1) 234 [.ref 59] h Q' := by
      intro Q' hq1 hq2
      have d00 : 0 < d - 1 := by omega
      unfold aEv
      simp only [lv_args, z_v, z_lg, z_h, z_u, z_u1, z_c, z_ct, z_sk, sbne, lst1_d, ldel, lst2_d, ldel2, z_sw, z_rok, zi, eq_self, List.map_cons, List.map_nil, List.append_nil, List.nil_append, List.cons_append, Int32.reduceLT, Int32.reduceLE, Int32.reduceAdd, Int32.reduceSub, Int32.reduceMul, Int32.reduceToInt, Int32.reduceToNatClampNeg, Int.reduceLT, Int.reduceLE, Int.reduceNeg, true_and, and_true, or_self, or_false, false_or, false_and, and_false, true_or, or_true, if_true, if_false, ne_eq, Classical.not_not, not_true_eq_false, not_false_eq_true, true_implies, false_implies, implies_true, Nat.reduceEqDiff, Nat.reduceAdd, Nat.reduceLeDiff, Nat.reduceSub, reduceCtorEq, reduceIte, b234_0, skM s, srM s, e10, d00]
      refine sp_enters m S0 hx hlv (by omega) (fun cl h1' S1 u3 u2 => Or.inr ?_) (fun cl h1' k1 a1 a2 => Or.inl ⟨rfl, hq2 2 x.2.1 (by rw [rd_92f c cl]) h1' k1 a1 a2⟩)
      rw [rd_92 c cl] at hq1 hq2
      have S1' := S1
      obtain ⟨ky1, H1, f10, f11⟩ := S1
      have m2 := rm_k ky1 m
      have s1 := m2.1.1
      obtain ⟨_, _, t2'⟩ := m2.2.2
      obtain ⟨_, y2, _⟩ := t2' i x hx
      obtain ⟨_, o63, _⟩ := rm_n m2
      have hvv : hv h1' = hv h := by rw [ky1.1.2.2.2.2.2.1, ky.1.2.2.2.2.2.1]
      refine ⟨rfl, Or.inl hvv, ?_⟩
      simp only [Option.toList, List.nil_append]
      simp only [lv_args, z_v, z_lg, z_h, z_u, z_u1, z_c, z_ct, z_sk, sbne, lst1_d, ldel, lst2_d, ldel2, z_sw, z_rok, zi, eq_self, List.map_cons, List.map_nil, List.append_nil, List.nil_append, List.cons_append, Int32.reduceLT, Int32.reduceLE, Int32.reduceAdd, Int32.reduceSub, Int32.reduceMul, Int32.reduceToInt, Int32.reduceToNatClampNeg, Int.reduceLT, Int.reduceLE, Int.reduceNeg, true_and, and_true, or_self, or_false, false_or, false_and, and_false, true_or, or_true, if_true, if_false, ne_eq, Classical.not_not, not_true_eq_false, not_false_eq_true, true_implies, false_implies, implies_true, Nat.reduceEqDiff, Nat.reduceAdd, Nat.reduceLeDiff, Nat.reduceSub, reduceCtorEq, reduceIte, b234_0, skM s1, srM s1, o63, d00]
      simp (disch := omega) only [nI_ti, nI_cl, le0N, ltNN, c2, y2, true_and]
      try simp only [lv_args, z_v, z_lg, z_h, z_u, z_u1, z_c, z_ct, z_sk, sbne, lst1_d, ldel, lst2_d, ldel2, z_sw, z_rok, zi, eq_self, List.map_cons, List.map_nil, List.append_nil, List.nil_append, List.cons_append, Int32.reduceLT, Int32.reduceLE, Int32.reduceAdd, Int32.reduceSub, Int32.reduceMul, Int32.reduceToInt, Int32.reduceToNatClampNeg, Int.reduceLT, Int.reduceLE, Int.reduceNeg, true_and, and_true, or_self, or_false, false_or, false_and, and_false, true_or, or_true, if_true, if_false, ne_eq, Classical.not_not, not_true_eq_false, not_false_eq_true, true_implies, false_implies, implies_true, Nat.reduceEqDiff, Nat.reduceAdd, Nat.reduceLeDiff, Nat.reduceSub, reduceCtorEq, reduceIte, b234_0, skM s1, d00]
      refine sp_node (k := 6) (v := 0) (p := nI x.2.1) m S1' he h6 h1 (by omega) (by decide) (by rw [if_neg (by decide), if_neg (by decide)]) (fun h2 S2 v3 v2 => ?_)
      have m3 := rm_k S2.1 m
      have s2 := m3.1.1
      obtain ⟨q1, q2, q3, q4, q5⟩ := nw_at (N := N) (e := e) (k := 6) (v := 0) (p := nI x.2.1) eN (fun y hy => (he.2.2 y hy).1)
      obtain ⟨_, q6⟩ := dm_ad (N := N) (e := e) (k := 6) (v := 0) (p := nI x.2.1)
      have G := r3 T (nLs x.2.1 N e) (N.1, none, false) lv (i + 1) (pdF e PF) (pdX e PX) h2 (d - 1) Q' (nI i) [] (Or.inl rfl) w2 hT1 ⟨by show N.1 < (nLs x.2.1 N e).1; unfold nLs; omega, fun _ => q4, fun y hy => (by cases hy)⟩ q1 h1 (fun y hy => (by cases hy)) (by omega) (by omega) (by unfold nLs; omega) S2 (by omega) (fun hn h3 i3 a1 a2 a3 a4 => hq1 hn h3 i3 a1 a2 (a3.trans (v3.trans u3)) (a4.trans (v2.trans u2))) hq2
      have el : lstE (N.1, none, false) = -1 := rfl
      rw [el] at G
      simp only [List.nil_append, List.cons_append] at G
      simp only [lv_args, z_v, z_lg, z_h, z_u, z_u1, z_c, z_ct, z_sk, sbne, lst1_d, ldel, lst2_d, ldel2, z_sw, z_rok, zi, eq_self, List.map_cons, List.map_nil, List.append_nil, List.nil_append, List.cons_append, Int32.reduceLT, Int32.reduceLE, Int32.reduceAdd, Int32.reduceSub, Int32.reduceMul, Int32.reduceToInt, Int32.reduceToNatClampNeg, Int.reduceLT, Int.reduceLE, Int.reduceNeg, true_and, and_true, or_self, or_false, false_or, false_and, and_false, true_or, or_true, if_true, if_false, ne_eq, Classical.not_not, not_true_eq_false, not_false_eq_true, true_implies, false_implies, implies_true, Nat.reduceEqDiff, Nat.reduceAdd, Nat.reduceLeDiff, Nat.reduceSub, reduceCtorEq, reduceIte, b234_0, skM s1, skM s2, Nat.reduceLT]
      exact G
    simp only [lv_args, z_v, z_lg, z_h, z_u, z_u1, z_c, z_ct, z_sk, sbne, lst1_d, ldel, lst2_d, ldel2, z_sw, z_rok, zi, eq_self, List.map_cons, List.map_nil, List.append_nil, List.nil_append, List.cons_append, Int32.reduceLT, Int32.reduceLE, Int32.reduceAdd, Int32.reduceSub, Int32.reduceMul, Int32.reduceToInt, Int32.reduceToNatClampNeg, Int.reduceLT, Int.reduceLE, Int.reduceNeg, true_and, and_true, or_self, or_false, false_or, false_and, and_false, true_or, or_true, if_true, if_false, ne_eq, Classical.not_not, not_true_eq_false, not_false_eq_true, true_implies, false_implies, implies_true, Nat.reduceEqDiff, Nat.reduceAdd, Nat.reduceLeDiff, Nat.reduceSub, reduceCtorEq, reduceIte, b199_155, skM s, h00]
    refine call _ (fun hn h' i' a1 a2 a3 a4 => Or.inr ⟨rfl, Or.inl (by rw [a2.1.1.2.2.2.2.2.1, ky.1.2.2.2.2.2.1]), ?_⟩) (fun k p hn h' a1 a2 a3 => Or.inl ⟨rfl, hq2 k p hn h' a1 a2 a3⟩)
    have P := hq1 hn h' i' a1 a2 a3 a4
    simp only [Option.toList, List.cons_append, List.nil_append]
    simp only [lv_args, z_v, z_lg, z_h, z_u, z_u1, z_c, z_ct, z_sk, sbne, lst1_d, ldel, lst2_d, ldel2, z_sw, z_rok, zi, eq_self, List.map_cons, List.map_nil, List.append_nil, List.nil_append, List.cons_append, Int32.reduceLT, Int32.reduceLE, Int32.reduceAdd, Int32.reduceSub, Int32.reduceMul, Int32.reduceToInt, Int32.reduceToNatClampNeg, Int.reduceLT, Int.reduceLE, Int.reduceNeg, true_and, and_true, or_self, or_false, false_or, false_and, and_false, true_or, or_true, if_true, if_false, ne_eq, Classical.not_not, not_true_eq_false, not_false_eq_true, true_implies, false_implies, implies_true, Nat.reduceEqDiff, Nat.reduceAdd, Nat.reduceLeDiff, Nat.reduceSub, reduceCtorEq, reduceIte, b199_155]
    exact P
  -- a quote
  have quo : x.1 = 4 → aWP d 199 150 [(1, .int (nI i)), (0, .ref 59)] [] h Q := fun c => by
    obtain ⟨w1, w2⟩ := wt_c wt (by omega)
    have call : ∀ Q' : Option Value → Hp → Prop, ((rd (f + 1) 9 (x :: T) N e lv).1 = none → ∀ h' i', T0.drop i' = (rd (f + 1) 9 (x :: T) N e lv).2.1 → RS (rd (f + 1) 9 (x :: T) N e lv).2.2.1 mt q (pdF e PF) (pdX e PX) i' lv h0 h' → hI h' q 3 = hI h q 3 → hI h' q 2 = hI h q 2 → Q' (some (.int (nI (N.1 - 1)))) h') → (∀ k p, (rd (f + 1) 9 (x :: T) N e lv).1 = some (k, p) → ∀ h', KYt q h0 h' → hI h' 59 13 = nI k → hI h' 59 14 = nI p → Q' (some (.retAddr 65)) h') → aEv (d - 1) 251 [.ref 59] h Q' := by
      intro Q' hq1 hq2
      have d00 : 0 < d - 1 := by omega
      unfold aEv
      simp only [lv_args, z_v, z_lg, z_h, z_u, z_u1, z_c, z_ct, z_sk, sbne, lst1_d, ldel, lst2_d, ldel2, z_sw, z_rok, zi, eq_self, List.map_cons, List.map_nil, List.append_nil, List.nil_append, List.cons_append, Int32.reduceLT, Int32.reduceLE, Int32.reduceAdd, Int32.reduceSub, Int32.reduceMul, Int32.reduceToInt, Int32.reduceToNatClampNeg, Int.reduceLT, Int.reduceLE, Int.reduceNeg, true_and, and_true, or_self, or_false, false_or, false_and, and_false, true_or, or_true, if_true, if_false, ne_eq, Classical.not_not, not_true_eq_false, not_false_eq_true, true_implies, false_implies, implies_true, Nat.reduceEqDiff, Nat.reduceAdd, Nat.reduceLeDiff, Nat.reduceSub, reduceCtorEq, reduceIte, b251_0, skM s, srM s, e10, d00]
      refine sp_enters m S0 hx hlv (by omega) (fun cl h1' S1 u3 u2 => Or.inr ?_) (fun cl h1' k1 a1 a2 => Or.inl ⟨rfl, hq2 2 x.2.1 (by rw [rd_94f c cl]) h1' k1 a1 a2⟩)
      rw [rd_94 c cl] at hq1 hq2
      have S1' := S1
      obtain ⟨ky1, H1, f10, f11⟩ := S1
      have m2 := rm_k ky1 m
      have s1 := m2.1.1
      obtain ⟨_, _, t2'⟩ := m2.2.2
      obtain ⟨_, y2, _⟩ := t2' i x hx
      obtain ⟨_, o63, o64⟩ := rm_n m2
      have hvv : hv h1' = hv h := by rw [ky1.1.2.2.2.2.2.1, ky.1.2.2.2.2.2.1]
      refine ⟨rfl, Or.inl hvv, ?_⟩
      simp only [Option.toList, List.nil_append]
      simp only [lv_args, z_v, z_lg, z_h, z_u, z_u1, z_c, z_ct, z_sk, sbne, lst1_d, ldel, lst2_d, ldel2, z_sw, z_rok, zi, eq_self, List.map_cons, List.map_nil, List.append_nil, List.nil_append, List.cons_append, Int32.reduceLT, Int32.reduceLE, Int32.reduceAdd, Int32.reduceSub, Int32.reduceMul, Int32.reduceToInt, Int32.reduceToNatClampNeg, Int.reduceLT, Int.reduceLE, Int.reduceNeg, true_and, and_true, or_self, or_false, false_or, false_and, and_false, true_or, or_true, if_true, if_false, ne_eq, Classical.not_not, not_true_eq_false, not_false_eq_true, true_implies, false_implies, implies_true, Nat.reduceEqDiff, Nat.reduceAdd, Nat.reduceLeDiff, Nat.reduceSub, reduceCtorEq, reduceIte, b251_0, skM s1, srM s1, o63, d00]
      simp (disch := omega) only [nI_ti, nI_cl, le0N, ltNN, c2, y2, true_and]
      try simp only [lv_args, z_v, z_lg, z_h, z_u, z_u1, z_c, z_ct, z_sk, sbne, lst1_d, ldel, lst2_d, ldel2, z_sw, z_rok, zi, eq_self, List.map_cons, List.map_nil, List.append_nil, List.nil_append, List.cons_append, Int32.reduceLT, Int32.reduceLE, Int32.reduceAdd, Int32.reduceSub, Int32.reduceMul, Int32.reduceToInt, Int32.reduceToNatClampNeg, Int.reduceLT, Int.reduceLE, Int.reduceNeg, true_and, and_true, or_self, or_false, false_or, false_and, and_false, true_or, or_true, if_true, if_false, ne_eq, Classical.not_not, not_true_eq_false, not_false_eq_true, true_implies, false_implies, implies_true, Nat.reduceEqDiff, Nat.reduceAdd, Nat.reduceLeDiff, Nat.reduceSub, reduceCtorEq, reduceIte, b251_0, skM s1, d00]
      refine sp_node (k := 6) (v := 0) (p := nI x.2.1) m S1' he h6 h1 (by omega) (by decide) (by rw [if_neg (by decide), if_neg (by decide)]) (fun h2 S2 v3 v2 => ?_)
      have m3 := rm_k S2.1 m
      have s2 := m3.1.1
      obtain ⟨_, _, t3'⟩ := m3.2.2
      obtain ⟨_, y3, y4⟩ := t3' i x hx
      obtain ⟨_, p63, p64⟩ := rm_n m3
      obtain ⟨q1, q2, q3, q4, q5⟩ := nw_at (N := N) (e := e) (k := 6) (v := 0) (p := nI x.2.1) eN (fun y hy => (he.2.2 y hy).1)
      obtain ⟨_, q6⟩ := dm_ad (N := N) (e := e) (k := 6) (v := 0) (p := nI x.2.1)
      have y4 : hA h2 64 i = nI (mt.idxOf 0) := by rw [y4 (by omega)]; unfold tvl; rw [c, if_neg (by decide), if_pos rfl]
      have eLs : nLs x.2.1 N e = adN (nwN N 6 0 (nI x.2.1)) e N.1 := rfl
      rw [← eLs] at q1 q2 q3 q4 q5 q6 S2
      have he1 : Eo (nLs x.2.1 N e) (N.1, none, true) := ⟨by show N.1 < (nLs x.2.1 N e).1; omega, fun _ => q4, fun y hy => (by cases hy)⟩
      simp only [lv_args, z_v, z_lg, z_h, z_u, z_u1, z_c, z_ct, z_sk, sbne, lst1_d, ldel, lst2_d, ldel2, z_sw, z_rok, zi, eq_self, List.map_cons, List.map_nil, List.append_nil, List.nil_append, List.cons_append, Int32.reduceLT, Int32.reduceLE, Int32.reduceAdd, Int32.reduceSub, Int32.reduceMul, Int32.reduceToInt, Int32.reduceToNatClampNeg, Int.reduceLT, Int.reduceLE, Int.reduceNeg, true_and, and_true, or_self, or_false, false_or, false_and, and_false, true_or, or_true, if_true, if_false, ne_eq, Classical.not_not, not_true_eq_false, not_false_eq_true, true_implies, false_implies, implies_true, Nat.reduceEqDiff, Nat.reduceAdd, Nat.reduceLeDiff, Nat.reduceSub, reduceCtorEq, reduceIte, b251_0, skM s1, skM s2, srM s2, p63, p64, d00, Nat.reduceLT]
      simp (disch := omega) only [nI_ti, nI_cl, le0N, ltNN, c2, y3, y4, true_and]
      try simp only [lv_args, z_v, z_lg, z_h, z_u, z_u1, z_c, z_ct, z_sk, sbne, lst1_d, ldel, lst2_d, ldel2, z_sw, z_rok, zi, eq_self, List.map_cons, List.map_nil, List.append_nil, List.nil_append, List.cons_append, Int32.reduceLT, Int32.reduceLE, Int32.reduceAdd, Int32.reduceSub, Int32.reduceMul, Int32.reduceToInt, Int32.reduceToNatClampNeg, Int.reduceLT, Int.reduceLE, Int.reduceNeg, true_and, and_true, or_self, or_false, false_or, false_and, and_false, true_or, or_true, if_true, if_false, ne_eq, Classical.not_not, not_true_eq_false, not_false_eq_true, true_implies, false_implies, implies_true, Nat.reduceEqDiff, Nat.reduceAdd, Nat.reduceLeDiff, Nat.reduceSub, reduceCtorEq, reduceIte, b251_0, skM s2, srM s2, p63, p64, d00]
      try simp (disch := omega) only [nI_ti, nI_cl, le0N, ltNN, c2, y3, y4, true_and]
      try simp only [lv_args, z_v, z_lg, z_h, z_u, z_u1, z_c, z_ct, z_sk, sbne, lst1_d, ldel, lst2_d, ldel2, z_sw, z_rok, zi, eq_self, List.map_cons, List.map_nil, List.append_nil, List.nil_append, List.cons_append, Int32.reduceLT, Int32.reduceLE, Int32.reduceAdd, Int32.reduceSub, Int32.reduceMul, Int32.reduceToInt, Int32.reduceToNatClampNeg, Int.reduceLT, Int.reduceLE, Int.reduceNeg, true_and, and_true, or_self, or_false, false_or, false_and, and_false, true_or, or_true, if_true, if_false, ne_eq, Classical.not_not, not_true_eq_false, not_false_eq_true, true_implies, false_implies, implies_true, Nat.reduceEqDiff, Nat.reduceAdd, Nat.reduceLeDiff, Nat.reduceSub, reduceCtorEq, reduceIte, b251_0, skM s2, srM s2, p63, p64, d00]
      refine sp_node (k := 5) (v := 0) (p := nI x.2.1) (e := (N.1, none, true)) m S2 he1 q1 (by omega) (by omega) (by decide) (by rw [if_pos (by decide)]; rfl) (fun h3 S3 z3 z2 => ?_)
      obtain ⟨⟨g1, g2⟩, g3⟩ := dm_ad (N := nLs x.2.1 N e) (e := (N.1, none, true)) (k := 5) (v := 0) (p := nI x.2.1)
      obtain ⟨o1, o2, o3, o4, o5⟩ := nw_at (N := nLs x.2.1 N e) (e := (N.1, none, true)) (k := 5) (v := 0) (p := nI x.2.1) he1.1 (fun y hy => (by cases hy))
      have eQu : nQu x.2.1 N e = adN (nwN (nLs x.2.1 N e) 5 0 (nI x.2.1)) (N.1, none, true) (nLs x.2.1 N e).1 := by unfold nQu; rw [q6]
      rw [← eQu] at S3 g1 g2 g3 o1 o2 o3 o4 o5
      obtain ⟨b1, b2, b3, b4, b5⟩ := g2 N.1 (by omega)
      rw [if_pos ⟨rfl, rfl⟩] at b4
      rw [q6] at b4 o5 g3
      obtain ⟨ky3, H3, i10, i11⟩ := S3
      have m4 := rm_k ky3 m
      have s3 := m4.1.1
      have R3 := rm_R m4
      have nn3 := nq m4.1.2 hq66
      have H4 : HX (nQu x.2.1 N e) mt q (fun n => pdF e PF n ∨ n = N.1) (pdX e PX) h3 := hx_w H3 (fun n _ w => w.elim Or.inl (fun w => Or.inr w.1)) (fun n _ w => w.elim id (fun w => by cases w))
      have H5 := hx_F hq66 H4 h1 b4 (by omega) (by omega)
      have cN : (N.1 - 1 < 6200) = True := eq_true (by omega)
      have cN1 : (N.1 < 6200) = True := eq_true (by omega)
      have e61 : (nLs x.2.1 N e).1 - 1 = N.1 := by omega
      rw [e61]
      have e62 : N.1 + 1 - 1 = N.1 := by omega
      rw [e62] at H5
      have he2 : Eo (nQu x.2.1 N e) (N.1, some (N.1 + 1), true) := ⟨by show N.1 < (nQu x.2.1 N e).1; omega, fun w => (by cases w), fun y hy => by
        injection hy with hy
        subst hy
        exact ⟨by omega, o5⟩⟩
      have c9 : ∀ (Q2 : Option Value → Hp → Prop), ((rd f 9 T (nQu x.2.1 N e) (N.1, some (N.1 + 1), true) (lv + 1)).1 = none → ∀ h' i', T0.drop i' = (rd f 9 T (nQu x.2.1 N e) (N.1, some (N.1 + 1), true) (lv + 1)).2.1 → RS (rd f 9 T (nQu x.2.1 N e) (N.1, some (N.1 + 1), true) (lv + 1)).2.2.1 mt q (pdF (N.1, some (N.1 + 1), true) (pdF e PF)) (pdX (N.1, some (N.1 + 1), true) (pdX e PX)) i' (lv + 1) h0 h' → hI h' q 3 = hI h q 3 → hI h' q 2 = hI h q 2 → Q2 (some (.int (nI ((nQu x.2.1 N e).1 - 1)))) h') → (∀ k p, (rd f 9 T (nQu x.2.1 N e) (N.1, some (N.1 + 1), true) (lv + 1)).1 = some (k, p) → ∀ h', KYt q h0 h' → hI h' 59 13 = nI k → hI h' 59 14 = nI p → Q2 (some (.retAddr 65)) h') → aEv (d - 1 - 1) 199 [.ref 59] (pA h3 (q + 4) (upd (hA h3 (q + 4)) (N.1 - 1) (nI N.1))) Q2 := fun Q2 k1 k2 => by
        refine r9 T (nQu x.2.1 N e) (N.1, some (N.1 + 1), true) (lv + 1) (i + 1) (pdF e PF) (pdX e PX) _ _ Q2 w2 hT1 he2 (by show nK _ N.1 = 6; rw [b1]; exact q1) (by omega) (by omega) (by omega) (by omega) ⟨kr_A ky3 (by omega), H5, i10, i11⟩ (by omega) (fun hn h' i' a1 a2 a3 a4 => k1 hn h' i' a1 a2 (a3.trans (z3.trans (v3.trans u3))) (a4.trans (z2.trans (v2.trans u2)))) k2
      -- behind the datum
      have back : (rd f 9 T (nQu x.2.1 N e) (N.1, some (N.1 + 1), true) (lv + 1)).1 = none → ∀ h' i', T0.drop i' = (rd f 9 T (nQu x.2.1 N e) (N.1, some (N.1 + 1), true) (lv + 1)).2.1 → RS (rd f 9 T (nQu x.2.1 N e) (N.1, some (N.1 + 1), true) (lv + 1)).2.2.1 mt q (pdF (N.1, some (N.1 + 1), true) (pdF e PF)) (pdX (N.1, some (N.1 + 1), true) (pdX e PX)) i' (lv + 1) h0 h' → hI h' q 3 = hI h q 3 → hI h' q 2 = hI h q 2 → ∀ L3 : ALS, L3 = [(3, .int (nI N.1)), (2, .int (nI (N.1 - 1))), (1, .int (nI i)), (0, .ref 59)] → aWP (d - 1) 251 62 L3 [.int (nI ((nQu x.2.1 N e).1 - 1)), .int (nI N.1), .ref (q + 5)] h' Q' := by
        intro hn h' i' hT' S' a3 a4 L3 hL3
        subst hL3
        obtain ⟨⟨d1, d2⟩, d3, d4⟩ := (rd_tr f 9 T (nQu x.2.1 N e) (N.1, some (N.1 + 1), true) (lv + 1) w2 he2 (by omega) (Or.inl rfl) hn).1 rfl
        have dX := (d2 (N.1 + 1) (by omega)).2.2.2.2
        rw [if_pos rfl] at dX
        obtain ⟨ky', H', e10', e11'⟩ := S'
        have m' := rm_k ky' m
        have s' := m'.1.1
        have nn' := nq m'.1.2 hq66
        have H2 : HX (rd f 9 T (nQu x.2.1 N e) (N.1, some (N.1 + 1), true) (lv + 1)).2.2.1 mt q (pdF e PF) (fun n => pdX e PX n ∨ n = N.1 + 1) h' := hx_w H' (fun n _ w => w.elim id (fun w => by cases w.2)) (fun n _ w => w.elim Or.inl (fun w => Or.inr (by injection w with w; exact w.symm)))
        have H3' := hx_X hq66 H2 (by omega) dX (by omega) (by omega)
        rw [e62] at H3'
        have P := hq1 hn (pI (pA h' (q + 5) (upd (hA h' (q + 5)) N.1 (nI ((nQu x.2.1 N e).1 - 1)))) 59 11 (nI lv)) i' hT' ⟨kr_I (kr_A ky' (by omega)) (by omega), by rcases hq66 with rfl | rfl <;> exact H3', by rcases hq66 with rfl | rfl <;> exact e10', rfl⟩ (by rw [← a3]; rcases hq66 with rfl | rfl <;> rfl) (by rw [← a4]; rcases hq66 with rfl | rfl <;> rfl)
        rcases hq66 with rfl | rfl
        · have n5 : hN h' 71 = 6200 := nn'.2.2.2.2.1
          simp only [lv_args, z_v, z_lg, z_h, z_u, z_u1, z_c, z_ct, z_sk, sbne, lst1_d, ldel, lst2_d, ldel2, z_sw, z_rok, zi, eq_self, List.map_cons, List.map_nil, List.append_nil, List.nil_append, List.cons_append, Int32.reduceLT, Int32.reduceLE, Int32.reduceAdd, Int32.reduceSub, Int32.reduceMul, Int32.reduceToInt, Int32.reduceToNatClampNeg, Int.reduceLT, Int.reduceLE, Int.reduceNeg, true_and, and_true, or_self, or_false, false_or, false_and, and_false, true_or, or_true, if_true, if_false, ne_eq, Classical.not_not, not_true_eq_false, not_false_eq_true, true_implies, false_implies, implies_true, Nat.reduceEqDiff, Nat.reduceAdd, Nat.reduceLeDiff, Nat.reduceSub, reduceCtorEq, reduceIte, b251_0, skM s', srM s', n5, e11', nI_s, nI_m1]
          simp (disch := omega) only [nI_ti, nI_cl, le0N, ltNN, cN1, true_and]
          try simp only [lv_args, z_v, z_lg, z_h, z_u, z_u1, z_c, z_ct, z_sk, sbne, lst1_d, ldel, lst2_d, ldel2, z_sw, z_rok, zi, eq_self, List.map_cons, List.map_nil, List.append_nil, List.nil_append, List.cons_append, Int32.reduceLT, Int32.reduceLE, Int32.reduceAdd, Int32.reduceSub, Int32.reduceMul, Int32.reduceToInt, Int32.reduceToNatClampNeg, Int.reduceLT, Int.reduceLE, Int.reduceNeg, true_and, and_true, or_self, or_false, false_or, false_and, and_false, true_or, or_true, if_true, if_false, ne_eq, Classical.not_not, not_true_eq_false, not_false_eq_true, true_implies, false_implies, implies_true, Nat.reduceEqDiff, Nat.reduceAdd, Nat.reduceLeDiff, Nat.reduceSub, reduceCtorEq, reduceIte, b251_0, skM s', srM s', n5, e11', nI_s, nI_m1]
          exact P
        · have n5 : hN h' 91 = 6200 := nn'.2.2.2.2.1
          simp only [lv_args, z_v, z_lg, z_h, z_u, z_u1, z_c, z_ct, z_sk, sbne, lst1_d, ldel, lst2_d, ldel2, z_sw, z_rok, zi, eq_self, List.map_cons, List.map_nil, List.append_nil, List.nil_append, List.cons_append, Int32.reduceLT, Int32.reduceLE, Int32.reduceAdd, Int32.reduceSub, Int32.reduceMul, Int32.reduceToInt, Int32.reduceToNatClampNeg, Int.reduceLT, Int.reduceLE, Int.reduceNeg, true_and, and_true, or_self, or_false, false_or, false_and, and_false, true_or, or_true, if_true, if_false, ne_eq, Classical.not_not, not_true_eq_false, not_false_eq_true, true_implies, false_implies, implies_true, Nat.reduceEqDiff, Nat.reduceAdd, Nat.reduceLeDiff, Nat.reduceSub, reduceCtorEq, reduceIte, b251_0, skM s', srM s', n5, e11', nI_s, nI_m1]
          simp (disch := omega) only [nI_ti, nI_cl, le0N, ltNN, cN1, true_and]
          try simp only [lv_args, z_v, z_lg, z_h, z_u, z_u1, z_c, z_ct, z_sk, sbne, lst1_d, ldel, lst2_d, ldel2, z_sw, z_rok, zi, eq_self, List.map_cons, List.map_nil, List.append_nil, List.nil_append, List.cons_append, Int32.reduceLT, Int32.reduceLE, Int32.reduceAdd, Int32.reduceSub, Int32.reduceMul, Int32.reduceToInt, Int32.reduceToNatClampNeg, Int.reduceLT, Int.reduceLE, Int.reduceNeg, true_and, and_true, or_self, or_false, false_or, false_and, and_false, true_or, or_true, if_true, if_false, ne_eq, Classical.not_not, not_true_eq_false, not_false_eq_true, true_implies, false_implies, implies_true, Nat.reduceEqDiff, Nat.reduceAdd, Nat.reduceLeDiff, Nat.reduceSub, reduceCtorEq, reduceIte, b251_0, skM s', srM s', n5, e11', nI_s, nI_m1]
          exact P
      rcases hq66 with rfl | rfl
      · have n4 : hN h3 70 = 6200 := nn3.2.2.2.1
        have fin : aEv (d - 1 - 1) 199 [.ref 59] (pA h3 70 (upd (hA h3 70) (N.1 - 1) (nI N.1))) (aCx (d - 1) 251 62 [(3, .int (nI N.1)), (2, .int (nI (N.1 - 1))), (1, .int (nI i)), (0, .ref 59)] [.int (nI N.1), .ref 71] (pA h3 70 (upd (hA h3 70) (N.1 - 1) (nI N.1))) Q') := c9 _ (fun hn h' i' a1 a2 a3 a4 => Or.inr ⟨rfl, Or.inl (by rw [a2.1.1.2.2.2.2.2.1]; exact ky3.1.2.2.2.2.2.1.symm), back hn h' i' a1 a2 a3 a4 _ rfl⟩) (fun k p hn h' a1 a2 a3 => Or.inl ⟨rfl, hq2 k p hn h' a1 a2 a3⟩)
        simp only [lv_args, z_v, z_lg, z_h, z_u, z_u1, z_c, z_ct, z_sk, sbne, lst1_d, ldel, lst2_d, ldel2, z_sw, z_rok, zi, eq_self, List.map_cons, List.map_nil, List.append_nil, List.nil_append, List.cons_append, Int32.reduceLT, Int32.reduceLE, Int32.reduceAdd, Int32.reduceSub, Int32.reduceMul, Int32.reduceToInt, Int32.reduceToNatClampNeg, Int.reduceLT, Int.reduceLE, Int.reduceNeg, true_and, and_true, or_self, or_false, false_or, false_and, and_false, true_or, or_true, if_true, if_false, ne_eq, Classical.not_not, not_true_eq_false, not_false_eq_true, true_implies, false_implies, implies_true, Nat.reduceEqDiff, Nat.reduceAdd, Nat.reduceLeDiff, Nat.reduceSub, reduceCtorEq, reduceIte, b251_0, skM s2, skM s3, srM s3, R3, n4, d00, Nat.reduceLT]
        simp (disch := omega) only [nI_ti, nI_cl, le0N, ltNN, cN, true_and]
        try simp only [lv_args, z_v, z_lg, z_h, z_u, z_u1, z_c, z_ct, z_sk, sbne, lst1_d, ldel, lst2_d, ldel2, z_sw, z_rok, zi, eq_self, List.map_cons, List.map_nil, List.append_nil, List.nil_append, List.cons_append, Int32.reduceLT, Int32.reduceLE, Int32.reduceAdd, Int32.reduceSub, Int32.reduceMul, Int32.reduceToInt, Int32.reduceToNatClampNeg, Int.reduceLT, Int.reduceLE, Int.reduceNeg, true_and, and_true, or_self, or_false, false_or, false_and, and_false, true_or, or_true, if_true, if_false, ne_eq, Classical.not_not, not_true_eq_false, not_false_eq_true, true_implies, false_implies, implies_true, Nat.reduceEqDiff, Nat.reduceAdd, Nat.reduceLeDiff, Nat.reduceSub, reduceCtorEq, reduceIte, b251_0, skM s3, srM s3, R3, n4, d00]
        exact fin
      · have n4 : hN h3 90 = 6200 := nn3.2.2.2.1
        have fin : aEv (d - 1 - 1) 199 [.ref 59] (pA h3 90 (upd (hA h3 90) (N.1 - 1) (nI N.1))) (aCx (d - 1) 251 62 [(3, .int (nI N.1)), (2, .int (nI (N.1 - 1))), (1, .int (nI i)), (0, .ref 59)] [.int (nI N.1), .ref 91] (pA h3 90 (upd (hA h3 90) (N.1 - 1) (nI N.1))) Q') := c9 _ (fun hn h' i' a1 a2 a3 a4 => Or.inr ⟨rfl, Or.inl (by rw [a2.1.1.2.2.2.2.2.1]; exact ky3.1.2.2.2.2.2.1.symm), back hn h' i' a1 a2 a3 a4 _ rfl⟩) (fun k p hn h' a1 a2 a3 => Or.inl ⟨rfl, hq2 k p hn h' a1 a2 a3⟩)
        simp only [lv_args, z_v, z_lg, z_h, z_u, z_u1, z_c, z_ct, z_sk, sbne, lst1_d, ldel, lst2_d, ldel2, z_sw, z_rok, zi, eq_self, List.map_cons, List.map_nil, List.append_nil, List.nil_append, List.cons_append, Int32.reduceLT, Int32.reduceLE, Int32.reduceAdd, Int32.reduceSub, Int32.reduceMul, Int32.reduceToInt, Int32.reduceToNatClampNeg, Int.reduceLT, Int.reduceLE, Int.reduceNeg, true_and, and_true, or_self, or_false, false_or, false_and, and_false, true_or, or_true, if_true, if_false, ne_eq, Classical.not_not, not_true_eq_false, not_false_eq_true, true_implies, false_implies, implies_true, Nat.reduceEqDiff, Nat.reduceAdd, Nat.reduceLeDiff, Nat.reduceSub, reduceCtorEq, reduceIte, b251_0, skM s2, skM s3, srM s3, R3, n4, d00, Nat.reduceLT]
        simp (disch := omega) only [nI_ti, nI_cl, le0N, ltNN, cN, true_and]
        try simp only [lv_args, z_v, z_lg, z_h, z_u, z_u1, z_c, z_ct, z_sk, sbne, lst1_d, ldel, lst2_d, ldel2, z_sw, z_rok, zi, eq_self, List.map_cons, List.map_nil, List.append_nil, List.nil_append, List.cons_append, Int32.reduceLT, Int32.reduceLE, Int32.reduceAdd, Int32.reduceSub, Int32.reduceMul, Int32.reduceToInt, Int32.reduceToNatClampNeg, Int.reduceLT, Int.reduceLE, Int.reduceNeg, true_and, and_true, or_self, or_false, false_or, false_and, and_false, true_or, or_true, if_true, if_false, ne_eq, Classical.not_not, not_true_eq_false, not_false_eq_true, true_implies, false_implies, implies_true, Nat.reduceEqDiff, Nat.reduceAdd, Nat.reduceLeDiff, Nat.reduceSub, reduceCtorEq, reduceIte, b251_0, skM s3, srM s3, R3, n4, d00]
        exact fin
    simp only [lv_args, z_v, z_lg, z_h, z_u, z_u1, z_c, z_ct, z_sk, sbne, lst1_d, ldel, lst2_d, ldel2, z_sw, z_rok, zi, eq_self, List.map_cons, List.map_nil, List.append_nil, List.nil_append, List.cons_append, Int32.reduceLT, Int32.reduceLE, Int32.reduceAdd, Int32.reduceSub, Int32.reduceMul, Int32.reduceToInt, Int32.reduceToNatClampNeg, Int.reduceLT, Int.reduceLE, Int.reduceNeg, true_and, and_true, or_self, or_false, false_or, false_and, and_false, true_or, or_true, if_true, if_false, ne_eq, Classical.not_not, not_true_eq_false, not_false_eq_true, true_implies, false_implies, implies_true, Nat.reduceEqDiff, Nat.reduceAdd, Nat.reduceLeDiff, Nat.reduceSub, reduceCtorEq, reduceIte, b199_150, skM s, h00]
    refine call _ (fun hn h' i' a1 a2 a3 a4 => Or.inr ⟨rfl, Or.inl (by rw [a2.1.1.2.2.2.2.2.1, ky.1.2.2.2.2.2.1]), ?_⟩) (fun k p hn h' a1 a2 a3 => Or.inl ⟨rfl, hq2 k p hn h' a1 a2 a3⟩)
    have P := hq1 hn h' i' a1 a2 a3 a4
    simp only [Option.toList, List.cons_append, List.nil_append]
    simp only [lv_args, z_v, z_lg, z_h, z_u, z_u1, z_c, z_ct, z_sk, sbne, lst1_d, ldel, lst2_d, ldel2, z_sw, z_rok, zi, eq_self, List.map_cons, List.map_nil, List.append_nil, List.nil_append, List.cons_append, Int32.reduceLT, Int32.reduceLE, Int32.reduceAdd, Int32.reduceSub, Int32.reduceMul, Int32.reduceToInt, Int32.reduceToNatClampNeg, Int.reduceLT, Int.reduceLE, Int.reduceNeg, true_and, and_true, or_self, or_false, false_or, false_and, and_false, true_or, or_true, if_true, if_false, ne_eq, Classical.not_not, not_true_eq_false, not_false_eq_true, true_implies, false_implies, implies_true, Nat.reduceEqDiff, Nat.reduceAdd, Nat.reduceLeDiff, Nat.reduceSub, reduceCtorEq, reduceIte, b199_150]
    exact P
  have hx' : x.1 ≤ 1 ∨ x.1 = 2 ∨ x.1 = 3 ∨ x.1 = 4 ∨ x.1 = 5 ∨ x.1 = 6 ∨ x.1 = 7 ∨ x.1 = 8 := by omega
  unfold aEv
  simp only [lv_args, z_v, z_lg, z_h, z_u, z_u1, z_c, z_ct, z_sk, sbne, lst1_d, ldel, lst2_d, ldel2, z_rok, zi, eq_self, List.map_cons, List.map_nil, List.append_nil, List.nil_append, List.cons_append, Int32.reduceLT, Int32.reduceLE, Int32.reduceAdd, Int32.reduceSub, Int32.reduceMul, Int32.reduceToInt, Int32.reduceToNatClampNeg, Int.reduceLT, Int.reduceLE, Int.reduceNeg, true_and, and_true, or_self, or_false, false_or, false_and, and_false, true_or, or_true, if_true, if_false, ne_eq, Classical.not_not, not_true_eq_false, not_false_eq_true, true_implies, false_implies, implies_true, Nat.reduceEqDiff, Nat.reduceAdd, Nat.reduceLeDiff, Nat.reduceSub, reduceCtorEq, reduceIte, b199_0, skM s, srM s, e10, n62]
  simp (disch := omega) only [nI_ti, nI_cl, le0N, ltNN, c2, x1, true_and]
  try simp only [lv_args, z_v, z_lg, z_h, z_u, z_u1, z_c, z_ct, z_sk, sbne, lst1_d, ldel, lst2_d, ldel2, z_rok, zi, eq_self, List.map_cons, List.map_nil, List.append_nil, List.nil_append, List.cons_append, Int32.reduceLT, Int32.reduceLE, Int32.reduceAdd, Int32.reduceSub, Int32.reduceMul, Int32.reduceToInt, Int32.reduceToNatClampNeg, Int.reduceLT, Int.reduceLE, Int.reduceNeg, true_and, and_true, or_self, or_false, false_or, false_and, and_false, true_or, or_true, if_true, if_false, ne_eq, Classical.not_not, not_true_eq_false, not_false_eq_true, true_implies, false_implies, implies_true, Nat.reduceEqDiff, Nat.reduceAdd, Nat.reduceLeDiff, Nat.reduceSub, reduceCtorEq, reduceIte, b199_0]
  rcases hx' with c | c | c | c | c | c | c | c
  · have c' : x.1 = 0 ∨ x.1 = 1 := by omega
    rcases c' with c' | c'
    · rw [c']
      exact sw_at (show aWP d 199 160 [(1, .int (nI i)), (0, .ref 59)] [] h Q from wrong (by omega))
    · rw [c']
      exact sw_at (show aWP d 199 160 [(1, .int (nI i)), (0, .ref 59)] [] h Q from wrong (by omega))
  · rw [c]
    exact sw_at (show aWP d 199 155 [(1, .int (nI i)), (0, .ref 59)] [] h Q from lst c)
  · rw [c]
    exact sw_at (show aWP d 199 160 [(1, .int (nI i)), (0, .ref 59)] [] h Q from wrong (by omega))
  · rw [c]
    exact sw_at (show aWP d 199 150 [(1, .int (nI i)), (0, .ref 59)] [] h Q from quo c)
  · have ev : x.2.2 = if tkK x.1 = 5 then nI (mt.idxOf x.2.2.toInt.toNat) else if tkK x.1 = 1 then x.2.2 else 0 := by rw [c, if_neg (by decide), if_pos (by decide)]
    have x3 : hA h 64 i = x.2.2 := by rw [x3 (by omega)]; unfold tvl; rw [c, if_neg (by decide), if_neg (by decide)]
    have ek : (0 : Int32) = rkd (tkK x.1) := by rw [c]; decide
    have h5 : 5 ≤ x.1 := by omega
    rw [c]
    refine sw_at (show aWP d 199 56 [(1, .int (nI i)), (0, .ref 59)] [] h Q from ?_)
    simp only [lv_args, z_v, z_lg, z_h, z_u, z_u1, z_c, z_ct, z_sk, sbne, lst1_d, ldel, lst2_d, ldel2, z_sw, z_rok, zi, eq_self, List.map_cons, List.map_nil, List.append_nil, List.nil_append, List.cons_append, Int32.reduceLT, Int32.reduceLE, Int32.reduceAdd, Int32.reduceSub, Int32.reduceMul, Int32.reduceToInt, Int32.reduceToNatClampNeg, Int.reduceLT, Int.reduceLE, Int.reduceNeg, true_and, and_true, or_self, or_false, false_or, false_and, and_false, true_or, or_true, if_true, if_false, ne_eq, Classical.not_not, not_true_eq_false, not_false_eq_true, true_implies, false_implies, implies_true, Nat.reduceEqDiff, Nat.reduceAdd, Nat.reduceLeDiff, Nat.reduceSub, reduceCtorEq, reduceIte, b199_56, skM s, srM s, e10, n63, n64, nI_s, h00]
    simp (disch := omega) only [nI_ti, nI_cl, le0N, ltNN, c2, x2, x3, true_and]
    try simp only [lv_args, z_v, z_lg, z_h, z_u, z_u1, z_c, z_ct, z_sk, sbne, lst1_d, ldel, lst2_d, ldel2, z_sw, z_rok, zi, eq_self, List.map_cons, List.map_nil, List.append_nil, List.nil_append, List.cons_append, Int32.reduceLT, Int32.reduceLE, Int32.reduceAdd, Int32.reduceSub, Int32.reduceMul, Int32.reduceToInt, Int32.reduceToNatClampNeg, Int.reduceLT, Int.reduceLE, Int.reduceNeg, true_and, and_true, or_self, or_false, false_or, false_and, and_false, true_or, or_true, if_true, if_false, ne_eq, Classical.not_not, not_true_eq_false, not_false_eq_true, true_implies, false_implies, implies_true, Nat.reduceEqDiff, Nat.reduceAdd, Nat.reduceLeDiff, Nat.reduceSub, reduceCtorEq, reduceIte, b199_56, skM s, srM s, n63, n64, h00]
    try simp (disch := omega) only [nI_ti, nI_cl, le0N, ltNN, c2, x2, x3, true_and]
    try simp only [lv_args, z_v, z_lg, z_h, z_u, z_u1, z_c, z_ct, z_sk, sbne, lst1_d, ldel, lst2_d, ldel2, z_sw, z_rok, zi, eq_self, List.map_cons, List.map_nil, List.append_nil, List.nil_append, List.cons_append, Int32.reduceLT, Int32.reduceLE, Int32.reduceAdd, Int32.reduceSub, Int32.reduceMul, Int32.reduceToInt, Int32.reduceToNatClampNeg, Int.reduceLT, Int.reduceLE, Int.reduceNeg, true_and, and_true, or_self, or_false, false_or, false_and, and_false, true_or, or_true, if_true, if_false, ne_eq, Classical.not_not, not_true_eq_false, not_false_eq_true, true_implies, false_implies, implies_true, Nat.reduceEqDiff, Nat.reduceAdd, Nat.reduceLeDiff, Nat.reduceSub, reduceCtorEq, reduceIte, b199_56, skM s, srM s, n63, n64, h00]
    refine sp_leaf (f := f) m hT S0 he h6 h1 (by omega) h5 ek ev (fun hn h' i' a1 a2 a3 a4 => ?_)
    have s' := (rm_k a2.1 m).1.1
    have P := hq1 hn h' i' a1 a2 a3 a4
    simp only [lv_args, z_v, z_lg, z_h, z_u, z_u1, z_c, z_ct, z_sk, sbne, lst1_d, ldel, lst2_d, ldel2, z_sw, z_rok, zi, eq_self, List.map_cons, List.map_nil, List.append_nil, List.nil_append, List.cons_append, Int32.reduceLT, Int32.reduceLE, Int32.reduceAdd, Int32.reduceSub, Int32.reduceMul, Int32.reduceToInt, Int32.reduceToNatClampNeg, Int.reduceLT, Int.reduceLE, Int.reduceNeg, true_and, and_true, or_self, or_false, false_or, false_and, and_false, true_or, or_true, if_true, if_false, ne_eq, Classical.not_not, not_true_eq_false, not_false_eq_true, true_implies, false_implies, implies_true, Nat.reduceEqDiff, Nat.reduceAdd, Nat.reduceLeDiff, Nat.reduceSub, reduceCtorEq, reduceIte, b199_56, skM s10, skM s', Nat.reduceLT]
    exact P
  · have ev : (0 : Int32) = if tkK x.1 = 5 then nI (mt.idxOf x.2.2.toInt.toNat) else if tkK x.1 = 1 then x.2.2 else 0 := by rw [c, if_neg (by decide), if_neg (by decide)]
    have ek : (1 : Int32) = rkd (tkK x.1) := by rw [c]; decide
    have h5 : 5 ≤ x.1 := by omega
    rw [c] at x1
    rw [c]
    have e6 : (nI 6 = nI 6) = True := eq_true rfl
    refine sw_at (show aWP d 199 84 [(1, .int (nI i)), (0, .ref 59)] [] h Q from ?_)
    simp only [lv_args, z_v, z_lg, z_h, z_u, z_u1, z_c, z_ct, z_sk, sbne, lst1_d, ldel, lst2_d, ldel2, z_sw, z_rok, zi, eq_self, List.map_cons, List.map_nil, List.append_nil, List.nil_append, List.cons_append, Int32.reduceLT, Int32.reduceLE, Int32.reduceAdd, Int32.reduceSub, Int32.reduceMul, Int32.reduceToInt, Int32.reduceToNatClampNeg, Int.reduceLT, Int.reduceLE, Int.reduceNeg, true_and, and_true, or_self, or_false, false_or, false_and, and_false, true_or, or_true, if_true, if_false, ne_eq, Classical.not_not, not_true_eq_false, not_false_eq_true, true_implies, false_implies, implies_true, Nat.reduceEqDiff, Nat.reduceAdd, Nat.reduceLeDiff, Nat.reduceSub, reduceCtorEq, reduceIte, b199_84, skM s, srM s, e10, n62, nI_s, z6]
    simp (disch := omega) only [nI_ti, nI_cl, le0N, ltNN, c2, x1, true_and]
    try simp only [lv_args, z_v, z_lg, z_h, z_u, z_u1, z_c, z_ct, z_sk, sbne, lst1_d, ldel, lst2_d, ldel2, z_sw, z_rok, zi, eq_self, List.map_cons, List.map_nil, List.append_nil, List.nil_append, List.cons_append, Int32.reduceLT, Int32.reduceLE, Int32.reduceAdd, Int32.reduceSub, Int32.reduceMul, Int32.reduceToInt, Int32.reduceToNatClampNeg, Int.reduceLT, Int.reduceLE, Int.reduceNeg, true_and, and_true, or_self, or_false, false_or, false_and, and_false, true_or, or_true, if_true, if_false, ne_eq, Classical.not_not, not_true_eq_false, not_false_eq_true, true_implies, false_implies, implies_true, Nat.reduceEqDiff, Nat.reduceAdd, Nat.reduceLeDiff, Nat.reduceSub, reduceCtorEq, reduceIte, b199_84, e6]
    simp only [lv_args, z_v, z_lg, z_h, z_u, z_u1, z_c, z_ct, z_sk, sbne, lst1_d, ldel, lst2_d, ldel2, z_sw, z_rok, zi, eq_self, List.map_cons, List.map_nil, List.append_nil, List.nil_append, List.cons_append, Int32.reduceLT, Int32.reduceLE, Int32.reduceAdd, Int32.reduceSub, Int32.reduceMul, Int32.reduceToInt, Int32.reduceToNatClampNeg, Int.reduceLT, Int.reduceLE, Int.reduceNeg, true_and, and_true, or_self, or_false, false_or, false_and, and_false, true_or, or_true, if_true, if_false, ne_eq, Classical.not_not, not_true_eq_false, not_false_eq_true, true_implies, false_implies, implies_true, Nat.reduceEqDiff, Nat.reduceAdd, Nat.reduceLeDiff, Nat.reduceSub, reduceCtorEq, reduceIte, b199_106]
    simp only [lv_args, z_v, z_lg, z_h, z_u, z_u1, z_c, z_ct, z_sk, sbne, lst1_d, ldel, lst2_d, ldel2, z_sw, z_rok, zi, eq_self, List.map_cons, List.map_nil, List.append_nil, List.nil_append, List.cons_append, Int32.reduceLT, Int32.reduceLE, Int32.reduceAdd, Int32.reduceSub, Int32.reduceMul, Int32.reduceToInt, Int32.reduceToNatClampNeg, Int.reduceLT, Int.reduceLE, Int.reduceNeg, true_and, and_true, or_self, or_false, false_or, false_and, and_false, true_or, or_true, if_true, if_false, ne_eq, Classical.not_not, not_true_eq_false, not_false_eq_true, true_implies, false_implies, implies_true, Nat.reduceEqDiff, Nat.reduceAdd, Nat.reduceLeDiff, Nat.reduceSub, reduceCtorEq, reduceIte, b199_111, skM s, srM s, n63, h00]
    simp (disch := omega) only [nI_ti, nI_cl, le0N, ltNN, c2, x2, true_and]
    try simp only [lv_args, z_v, z_lg, z_h, z_u, z_u1, z_c, z_ct, z_sk, sbne, lst1_d, ldel, lst2_d, ldel2, z_sw, z_rok, zi, eq_self, List.map_cons, List.map_nil, List.append_nil, List.nil_append, List.cons_append, Int32.reduceLT, Int32.reduceLE, Int32.reduceAdd, Int32.reduceSub, Int32.reduceMul, Int32.reduceToInt, Int32.reduceToNatClampNeg, Int.reduceLT, Int.reduceLE, Int.reduceNeg, true_and, and_true, or_self, or_false, false_or, false_and, and_false, true_or, or_true, if_true, if_false, ne_eq, Classical.not_not, not_true_eq_false, not_false_eq_true, true_implies, false_implies, implies_true, Nat.reduceEqDiff, Nat.reduceAdd, Nat.reduceLeDiff, Nat.reduceSub, reduceCtorEq, reduceIte, b199_111, skM s, srM s, n63, h00]
    refine sp_leaf (f := f) m hT S0 he h6 h1 (by omega) h5 ek ev (fun hn h' i' a1 a2 a3 a4 => ?_)
    have s' := (rm_k a2.1 m).1.1
    have P := hq1 hn h' i' a1 a2 a3 a4
    simp only [lv_args, z_v, z_lg, z_h, z_u, z_u1, z_c, z_ct, z_sk, sbne, lst1_d, ldel, lst2_d, ldel2, z_sw, z_rok, zi, eq_self, List.map_cons, List.map_nil, List.append_nil, List.nil_append, List.cons_append, Int32.reduceLT, Int32.reduceLE, Int32.reduceAdd, Int32.reduceSub, Int32.reduceMul, Int32.reduceToInt, Int32.reduceToNatClampNeg, Int.reduceLT, Int.reduceLE, Int.reduceNeg, true_and, and_true, or_self, or_false, false_or, false_and, and_false, true_or, or_true, if_true, if_false, ne_eq, Classical.not_not, not_true_eq_false, not_false_eq_true, true_implies, false_implies, implies_true, Nat.reduceEqDiff, Nat.reduceAdd, Nat.reduceLeDiff, Nat.reduceSub, reduceCtorEq, reduceIte, b199_111, skM s10, skM s', Nat.reduceLT]
    exact P
  · have ev : (0 : Int32) = if tkK x.1 = 5 then nI (mt.idxOf x.2.2.toInt.toNat) else if tkK x.1 = 1 then x.2.2 else 0 := by rw [c, if_neg (by decide), if_neg (by decide)]
    have ek : (2 : Int32) = rkd (tkK x.1) := by rw [c]; decide
    have h5 : 5 ≤ x.1 := by omega
    rw [c] at x1
    rw [c]
    have e6 : (nI 7 = nI 6) = False := eq_false (by decide)
    refine sw_at (show aWP d 199 84 [(1, .int (nI i)), (0, .ref 59)] [] h Q from ?_)
    simp only [lv_args, z_v, z_lg, z_h, z_u, z_u1, z_c, z_ct, z_sk, sbne, lst1_d, ldel, lst2_d, ldel2, z_sw, z_rok, zi, eq_self, List.map_cons, List.map_nil, List.append_nil, List.nil_append, List.cons_append, Int32.reduceLT, Int32.reduceLE, Int32.reduceAdd, Int32.reduceSub, Int32.reduceMul, Int32.reduceToInt, Int32.reduceToNatClampNeg, Int.reduceLT, Int.reduceLE, Int.reduceNeg, true_and, and_true, or_self, or_false, false_or, false_and, and_false, true_or, or_true, if_true, if_false, ne_eq, Classical.not_not, not_true_eq_false, not_false_eq_true, true_implies, false_implies, implies_true, Nat.reduceEqDiff, Nat.reduceAdd, Nat.reduceLeDiff, Nat.reduceSub, reduceCtorEq, reduceIte, b199_84, skM s, srM s, e10, n62, nI_s, z6]
    simp (disch := omega) only [nI_ti, nI_cl, le0N, ltNN, c2, x1, true_and]
    try simp only [lv_args, z_v, z_lg, z_h, z_u, z_u1, z_c, z_ct, z_sk, sbne, lst1_d, ldel, lst2_d, ldel2, z_sw, z_rok, zi, eq_self, List.map_cons, List.map_nil, List.append_nil, List.nil_append, List.cons_append, Int32.reduceLT, Int32.reduceLE, Int32.reduceAdd, Int32.reduceSub, Int32.reduceMul, Int32.reduceToInt, Int32.reduceToNatClampNeg, Int.reduceLT, Int.reduceLE, Int.reduceNeg, true_and, and_true, or_self, or_false, false_or, false_and, and_false, true_or, or_true, if_true, if_false, ne_eq, Classical.not_not, not_true_eq_false, not_false_eq_true, true_implies, false_implies, implies_true, Nat.reduceEqDiff, Nat.reduceAdd, Nat.reduceLeDiff, Nat.reduceSub, reduceCtorEq, reduceIte, b199_84, e6]
    simp only [lv_args, z_v, z_lg, z_h, z_u, z_u1, z_c, z_ct, z_sk, sbne, lst1_d, ldel, lst2_d, ldel2, z_sw, z_rok, zi, eq_self, List.map_cons, List.map_nil, List.append_nil, List.nil_append, List.cons_append, Int32.reduceLT, Int32.reduceLE, Int32.reduceAdd, Int32.reduceSub, Int32.reduceMul, Int32.reduceToInt, Int32.reduceToNatClampNeg, Int.reduceLT, Int.reduceLE, Int.reduceNeg, true_and, and_true, or_self, or_false, false_or, false_and, and_false, true_or, or_true, if_true, if_false, ne_eq, Classical.not_not, not_true_eq_false, not_false_eq_true, true_implies, false_implies, implies_true, Nat.reduceEqDiff, Nat.reduceAdd, Nat.reduceLeDiff, Nat.reduceSub, reduceCtorEq, reduceIte, b199_110]
    simp only [lv_args, z_v, z_lg, z_h, z_u, z_u1, z_c, z_ct, z_sk, sbne, lst1_d, ldel, lst2_d, ldel2, z_sw, z_rok, zi, eq_self, List.map_cons, List.map_nil, List.append_nil, List.nil_append, List.cons_append, Int32.reduceLT, Int32.reduceLE, Int32.reduceAdd, Int32.reduceSub, Int32.reduceMul, Int32.reduceToInt, Int32.reduceToNatClampNeg, Int.reduceLT, Int.reduceLE, Int.reduceNeg, true_and, and_true, or_self, or_false, false_or, false_and, and_false, true_or, or_true, if_true, if_false, ne_eq, Classical.not_not, not_true_eq_false, not_false_eq_true, true_implies, false_implies, implies_true, Nat.reduceEqDiff, Nat.reduceAdd, Nat.reduceLeDiff, Nat.reduceSub, reduceCtorEq, reduceIte, b199_111, skM s, srM s, n63, h00]
    simp (disch := omega) only [nI_ti, nI_cl, le0N, ltNN, c2, x2, true_and]
    try simp only [lv_args, z_v, z_lg, z_h, z_u, z_u1, z_c, z_ct, z_sk, sbne, lst1_d, ldel, lst2_d, ldel2, z_sw, z_rok, zi, eq_self, List.map_cons, List.map_nil, List.append_nil, List.nil_append, List.cons_append, Int32.reduceLT, Int32.reduceLE, Int32.reduceAdd, Int32.reduceSub, Int32.reduceMul, Int32.reduceToInt, Int32.reduceToNatClampNeg, Int.reduceLT, Int.reduceLE, Int.reduceNeg, true_and, and_true, or_self, or_false, false_or, false_and, and_false, true_or, or_true, if_true, if_false, ne_eq, Classical.not_not, not_true_eq_false, not_false_eq_true, true_implies, false_implies, implies_true, Nat.reduceEqDiff, Nat.reduceAdd, Nat.reduceLeDiff, Nat.reduceSub, reduceCtorEq, reduceIte, b199_111, skM s, srM s, n63, h00]
    refine sp_leaf (f := f) m hT S0 he h6 h1 (by omega) h5 ek ev (fun hn h' i' a1 a2 a3 a4 => ?_)
    have s' := (rm_k a2.1 m).1.1
    have P := hq1 hn h' i' a1 a2 a3 a4
    simp only [lv_args, z_v, z_lg, z_h, z_u, z_u1, z_c, z_ct, z_sk, sbne, lst1_d, ldel, lst2_d, ldel2, z_sw, z_rok, zi, eq_self, List.map_cons, List.map_nil, List.append_nil, List.nil_append, List.cons_append, Int32.reduceLT, Int32.reduceLE, Int32.reduceAdd, Int32.reduceSub, Int32.reduceMul, Int32.reduceToInt, Int32.reduceToNatClampNeg, Int.reduceLT, Int.reduceLE, Int.reduceNeg, true_and, and_true, or_self, or_false, false_or, false_and, and_false, true_or, or_true, if_true, if_false, ne_eq, Classical.not_not, not_true_eq_false, not_false_eq_true, true_implies, false_implies, implies_true, Nat.reduceEqDiff, Nat.reduceAdd, Nat.reduceLeDiff, Nat.reduceSub, reduceCtorEq, reduceIte, b199_111, skM s10, skM s', Nat.reduceLT]
    exact P
  · have ev : tvl mt x = if tkK x.1 = 5 then nI (mt.idxOf x.2.2.toInt.toNat) else if tkK x.1 = 1 then x.2.2 else 0 := by
      unfold tvl
      rw [c, if_pos rfl, if_pos (by decide)]
    have ek : (3 : Int32) = rkd (tkK x.1) := by rw [c]; decide
    have x3 := x3 (by omega)
    have h5 : 5 ≤ x.1 := by omega
    rw [c]
    refine sw_at (show aWP d 199 122 [(1, .int (nI i)), (0, .ref 59)] [] h Q from ?_)
    simp only [lv_args, z_v, z_lg, z_h, z_u, z_u1, z_c, z_ct, z_sk, sbne, lst1_d, ldel, lst2_d, ldel2, z_sw, z_rok, zi, eq_self, List.map_cons, List.map_nil, List.append_nil, List.nil_append, List.cons_append, Int32.reduceLT, Int32.reduceLE, Int32.reduceAdd, Int32.reduceSub, Int32.reduceMul, Int32.reduceToInt, Int32.reduceToNatClampNeg, Int.reduceLT, Int.reduceLE, Int.reduceNeg, true_and, and_true, or_self, or_false, false_or, false_and, and_false, true_or, or_true, if_true, if_false, ne_eq, Classical.not_not, not_true_eq_false, not_false_eq_true, true_implies, false_implies, implies_true, Nat.reduceEqDiff, Nat.reduceAdd, Nat.reduceLeDiff, Nat.reduceSub, reduceCtorEq, reduceIte, b199_122, skM s, srM s, e10, n63, n64, nI_s, h00]
    simp (disch := omega) only [nI_ti, nI_cl, le0N, ltNN, c2, x2, x3, true_and]
    try simp only [lv_args, z_v, z_lg, z_h, z_u, z_u1, z_c, z_ct, z_sk, sbne, lst1_d, ldel, lst2_d, ldel2, z_sw, z_rok, zi, eq_self, List.map_cons, List.map_nil, List.append_nil, List.nil_append, List.cons_append, Int32.reduceLT, Int32.reduceLE, Int32.reduceAdd, Int32.reduceSub, Int32.reduceMul, Int32.reduceToInt, Int32.reduceToNatClampNeg, Int.reduceLT, Int.reduceLE, Int.reduceNeg, true_and, and_true, or_self, or_false, false_or, false_and, and_false, true_or, or_true, if_true, if_false, ne_eq, Classical.not_not, not_true_eq_false, not_false_eq_true, true_implies, false_implies, implies_true, Nat.reduceEqDiff, Nat.reduceAdd, Nat.reduceLeDiff, Nat.reduceSub, reduceCtorEq, reduceIte, b199_122, skM s, srM s, n63, n64, h00]
    try simp (disch := omega) only [nI_ti, nI_cl, le0N, ltNN, c2, x2, x3, true_and]
    try simp only [lv_args, z_v, z_lg, z_h, z_u, z_u1, z_c, z_ct, z_sk, sbne, lst1_d, ldel, lst2_d, ldel2, z_sw, z_rok, zi, eq_self, List.map_cons, List.map_nil, List.append_nil, List.nil_append, List.cons_append, Int32.reduceLT, Int32.reduceLE, Int32.reduceAdd, Int32.reduceSub, Int32.reduceMul, Int32.reduceToInt, Int32.reduceToNatClampNeg, Int.reduceLT, Int.reduceLE, Int.reduceNeg, true_and, and_true, or_self, or_false, false_or, false_and, and_false, true_or, or_true, if_true, if_false, ne_eq, Classical.not_not, not_true_eq_false, not_false_eq_true, true_implies, false_implies, implies_true, Nat.reduceEqDiff, Nat.reduceAdd, Nat.reduceLeDiff, Nat.reduceSub, reduceCtorEq, reduceIte, b199_122, skM s, srM s, n63, n64, h00]
    refine sp_leaf (f := f) m hT S0 he h6 h1 (by omega) h5 ek ev (fun hn h' i' a1 a2 a3 a4 => ?_)
    have s' := (rm_k a2.1 m).1.1
    have P := hq1 hn h' i' a1 a2 a3 a4
    simp only [lv_args, z_v, z_lg, z_h, z_u, z_u1, z_c, z_ct, z_sk, sbne, lst1_d, ldel, lst2_d, ldel2, z_sw, z_rok, zi, eq_self, List.map_cons, List.map_nil, List.append_nil, List.nil_append, List.cons_append, Int32.reduceLT, Int32.reduceLE, Int32.reduceAdd, Int32.reduceSub, Int32.reduceMul, Int32.reduceToInt, Int32.reduceToNatClampNeg, Int.reduceLT, Int.reduceLE, Int.reduceNeg, true_and, and_true, or_self, or_false, false_or, false_and, and_false, true_or, or_true, if_true, if_false, ne_eq, Classical.not_not, not_true_eq_false, not_false_eq_true, true_implies, false_implies, implies_true, Nat.reduceEqDiff, Nat.reduceAdd, Nat.reduceLeDiff, Nat.reduceSub, reduceCtorEq, reduceIte, b199_122, skM s10, skM s', Nat.reduceLT]
    exact P
end MDU
