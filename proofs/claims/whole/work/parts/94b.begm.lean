/-! BEGIN: the reference's quotes -/
section BGM
variable {h h' : Hp} {Q : Option Value → Hp → Prop} {d : Nat} {G : PG} {q : Nat} {qv : Nat → Int64}
/-- all but the quotes' pairs and values is alike -/
def FrQ (h h' : Hp) : Prop := hK h' = hK h ∧ hR h' = hR h ∧ hN h' = hN h ∧ hn h' = hn h ∧ hu h' = hu h ∧ hL h' = hL h ∧ (∀ a i, ¬ (a = 59 ∧ i = 31) → hI h' a i = hI h a i) ∧ (∀ a, a ≠ 115 → hA h' a = hA h a) ∧ (∀ a, a ≠ 112 → a ≠ 113 → a ≠ 114 → hB h' a = hB h a) ∧ hv h' = hv h
theorem frq_rf : FrQ h h := ⟨rfl, rfl, rfl, rfl, rfl, rfl, fun _ _ _ => rfl, fun _ _ => rfl, fun _ _ _ _ => rfl, rfl⟩
theorem frq_tr {h1 h2 : Hp} (a : FrQ h h1) (b : FrQ h1 h2) : FrQ h h2 := by
  obtain ⟨a1, a2, a3, a4, a5, a6, a7, a8, a9, a10⟩ := a
  obtain ⟨b1, b2, b3, b4, b5, b6, b7, b8, b9, b10⟩ := b
  exact ⟨b1.trans a1, b2.trans a2, b3.trans a3, b4.trans a4, b5.trans a5, b6.trans a6, fun x i c => (b7 x i c).trans (a7 x i c), fun x c => (b8 x c).trans (a8 x c), fun x c1 c2 c3 => (b9 x c1 c2 c3).trans (a9 x c1 c2 c3), b10.trans a10⟩
/-- the program is there, with room for its data -/
def BQ (G : PG) (q : Nat) (h : Hp) : Prop := Sk h ∧ PM G q h ∧ hR h 59 17 = some q ∧ hN h 112 = 46200 ∧ hN h 113 = 46200 ∧ hN h 114 = 6200 ∧ hN h 115 = 6200
theorem frq_bq (f : FrQ h h') (b : BQ G q h) : BQ G q h' := by
  obtain ⟨f1, f2, f3, f4, f5, f6, f7, f8, f9, _⟩ := f
  obtain ⟨b1, b2, b3, b4, b5, b6, b7⟩ := b
  have hq : q = 66 ∨ q = 86 := b2.1
  exact ⟨(sk_same f1 f2 f4 : Sk _ = Sk h) ▸ b1, pm_same (funext fun i => f7 q i (by omega)) (fun j hj => ⟨f8 _ (by omega), by rw [f3]⟩) b2, by rw [f2]; exact b3, by rw [f3]; exact b4, by rw [f3]; exact b5, by rw [f3]; exact b6, by rw [f3]; exact b7⟩
/-- pairs made so far -/
def PaQ (pa : List (Int64 × Int64)) (h : Hp) : Prop := hI h 59 31 = nI pa.length ∧ ∀ (i : Nat) (u v : Int64), pa[i]? = some (u, v) → hB h 112 i = u ∧ hB h 113 i = v
theorem chn_nodup (pn : pNn G ≤ 6200) : ∀ {l : List Nat} {c : Int32}, Chn G c l → l.Nodup
  | [], _, _ => List.nodup_nil
  | a :: l, c, hc => by
    refine List.nodup_cons.mpr ⟨fun e => ?_, chn_nodup pn hc.2.2⟩
    obtain ⟨l1, l2, rfl⟩ := List.append_of_mem e
    have h2 : Chn G c ((a :: l1) ++ a :: l2) := hc
    exact chn_nd pn h2 (by simp)
theorem chn_len (pn : pNn G ≤ 6200) {l : List Nat} {c : Int32} (hc : Chn G c l) : l.length ≤ pNn G := by
  refine pige_nd _ _ (chn_nodup pn hc) (fun x hx => ?_)
  obtain ⟨i, e⟩ := List.mem_iff_getElem?.mp hx
  exact chn_get hc e
theorem qls_len : ∀ {l : List Nat} {pa : List (Int64 × Int64)}, pa.length ≤ (qLs qv l pa).2.length
  | [], _ => Nat.le_refl _
  | c :: l, pa => by
    have := qls_len (l := l) (pa := pa)
    show pa.length ≤ ((qLs qv l pa).2 ++ [(qv c, (qLs qv l pa).1)]).length
    rw [List.length_append]
    omega
/-- the list's parts are put into a row -/
theorem li_1 {n : Nat} {l0 : List Nat} (b : BQ G q h) (hl : l0.length ≤ 6200) (hq : ∀ f, (∀ i c : Nat, l0[i]? = some c → f i = nI c) → aWP d 235 40 [(3, .int (-1)), (2, .int (nI l0.length)), (0, .ref 59), (1, .int (nI n))] [] (pA h 115 f) Q) : ∀ (l l1 : List Nat) (c : Int32) (f : Nat → Int32), l0 = l1 ++ l → Chn G c l → (∀ i c : Nat, l1[i]? = some c → f i = nI c) → aWP d 235 12 [(3, .int c), (2, .int (nI l1.length)), (0, .ref 59), (1, .int (nI n))] [] (pA h 115 f) Q := by
  obtain ⟨s, P, r17, n112, n113, n114, n115⟩ := b
  have pn := P.2.2.1
  obtain ⟨⟨k0, k1, k2, k4, k5, _⟩, w7, w8, w10, w11, _⟩ := prf s P.1
  intro l
  induction l with
  | nil =>
    intro l1 c f e hc hf
    have hc : c = -1 := hc
    subst hc
    rw [List.append_nil] at e
    subst e
    simp only [lv_args, z_v, z_lg, z_h, z_u, z_u1, z_c, z_ct, z_sk, sbne, lst1_d, ldel, lst2_d, ldel2, z_sw, z_rok, zi, eq_self, List.map_cons, List.map_nil, List.append_nil, List.nil_append, List.cons_append, Int32.reduceLT, Int32.reduceLE, Int32.reduceAdd, Int32.reduceSub, Int32.reduceMul, Int32.reduceToInt, Int32.reduceToNatClampNeg, Int.reduceLT, Int.reduceLE, Int.reduceNeg, true_and, and_true, or_self, or_false, false_or, false_and, and_false, true_or, or_true, if_true, if_false, ne_eq, Classical.not_not, not_true_eq_false, not_false_eq_true, true_implies, false_implies, implies_true, Nat.reduceEqDiff, Nat.reduceAdd, Nat.reduceLeDiff, Nat.reduceSub, reduceCtorEq, reduceIte, b235_12]
    exact hq f hf
  | cons a l ih =>
    intro l1 c f e hc hf
    obtain ⟨rfl, ha, hc⟩ := hc
    have hlen : l1.length < 6200 := by
      have := congrArg List.length e
      rw [List.length_append, List.length_cons] at this
      omega
    have ne := nI_m1' (a := a) (by omega)
    obtain ⟨p1, p2, p3⟩ := pm_n P (j := 5) (by decide) (by decide) ha
    have p2 : hA h (q + 5) a = G.1 25 a := p2
    have q110 : ¬ q = 110 := by rcases P.1 with e | e <;> omega
    have next := ih (l1 ++ [a]) (G.1 25 a) (upd f l1.length (nI a)) (by rw [e]; simp) hc (fun i c hi => by
      by_cases ci : i = l1.length
      · subst ci
        rw [List.getElem?_append_right (Nat.le_refl _), Nat.sub_self] at hi
        simp only [List.getElem?_cons_zero, Option.some.injEq] at hi
        subst hi
        exact if_pos rfl
      · have hl := g_lt hi
        rw [List.length_append, List.length_singleton] at hl
        rw [List.getElem?_append_left (by omega)] at hi
        exact (if_neg ci).trans (hf i c hi))
    rw [List.length_append, List.length_singleton, ← pA_pA h 115 f (upd f l1.length (nI a))] at next
    simp only [lv_args, z_v, z_lg, z_h, z_u, z_u1, z_c, z_ct, z_sk, sbne, lst1_d, ldel, lst2_d, ldel2, z_sw, z_rok, zi, eq_self, List.map_cons, List.map_nil, List.append_nil, List.nil_append, List.cons_append, Int32.reduceLT, Int32.reduceLE, Int32.reduceAdd, Int32.reduceSub, Int32.reduceMul, Int32.reduceToInt, Int32.reduceToNatClampNeg, Int.reduceLT, Int.reduceLE, Int.reduceNeg, true_and, and_true, or_self, or_false, false_or, false_and, and_false, true_or, or_true, if_true, if_false, ne_eq, Classical.not_not, not_true_eq_false, not_false_eq_true, true_implies, false_implies, implies_true, Nat.reduceEqDiff, Nat.reduceAdd, Nat.reduceLeDiff, Nat.reduceSub, reduceCtorEq, reduceIte, b235_12, ne]
    simp only [lv_args, z_v, z_lg, z_h, z_u, z_u1, z_c, z_ct, z_sk, sbne, lst1_d, ldel, lst2_d, ldel2, z_sw, z_rok, zi, eq_self, List.map_cons, List.map_nil, List.append_nil, List.nil_append, List.cons_append, Int32.reduceLT, Int32.reduceLE, Int32.reduceAdd, Int32.reduceSub, Int32.reduceMul, Int32.reduceToInt, Int32.reduceToNatClampNeg, Int.reduceLT, Int.reduceLE, Int.reduceNeg, true_and, and_true, or_self, or_false, false_or, false_and, and_false, true_or, or_true, if_true, if_false, ne_eq, Classical.not_not, not_true_eq_false, not_false_eq_true, true_implies, false_implies, implies_true, Nat.reduceEqDiff, Nat.reduceAdd, Nat.reduceLeDiff, Nat.reduceSub, reduceCtorEq, reduceIte, b235_17, skM s, srM s, n115, r17, k0, w11, k5]
    simp (disch := omega) only [nI_ti, nI_cl, le0N, ltNN, true_and]
    refine ⟨by omega, ?_⟩
    try simp only [lv_args, z_v, z_lg, z_h, z_u, z_u1, z_c, z_ct, z_sk, sbne, lst1_d, ldel, lst2_d, ldel2, z_sw, z_rok, zi, eq_self, List.map_cons, List.map_nil, List.append_nil, List.nil_append, List.cons_append, Int32.reduceLT, Int32.reduceLE, Int32.reduceAdd, Int32.reduceSub, Int32.reduceMul, Int32.reduceToInt, Int32.reduceToNatClampNeg, Int.reduceLT, Int.reduceLE, Int.reduceNeg, true_and, and_true, or_self, or_false, false_or, false_and, and_false, true_or, or_true, if_true, if_false, ne_eq, Classical.not_not, not_true_eq_false, not_false_eq_true, true_implies, false_implies, implies_true, Nat.reduceEqDiff, Nat.reduceAdd, Nat.reduceLeDiff, Nat.reduceSub, reduceCtorEq, reduceIte, b235_17, skM s, r17, k0, w11, k5, q110]
    try simp (disch := omega) only [nI_ti, nI_cl, le0N, ltNN, p1, p2, true_and]
    refine ⟨p3, ?_⟩
    try simp only [lv_args, z_v, z_lg, z_h, z_u, z_u1, z_c, z_ct, z_sk, sbne, lst1_d, ldel, lst2_d, ldel2, z_sw, z_rok, zi, eq_self, List.map_cons, List.map_nil, List.append_nil, List.nil_append, List.cons_append, Int32.reduceLT, Int32.reduceLE, Int32.reduceAdd, Int32.reduceSub, Int32.reduceMul, Int32.reduceToInt, Int32.reduceToNatClampNeg, Int.reduceLT, Int.reduceLE, Int.reduceNeg, true_and, and_true, or_self, or_false, false_or, false_and, and_false, true_or, or_true, if_true, if_false, ne_eq, Classical.not_not, not_true_eq_false, not_false_eq_true, true_implies, false_implies, implies_true, Nat.reduceEqDiff, Nat.reduceAdd, Nat.reduceLeDiff, Nat.reduceSub, reduceCtorEq, reduceIte, b235_17, nI_1, q110, p2]
    exact next
/-- its pairs are made, the last one first -/
theorem li_2 {n : Nat} {h0 : Hp} {pa0 : List (Int64 × Int64)} {l0 : List Nat} {x2 : Int32} (b : BQ G q h0) (hl : ∀ c, c ∈ l0 → c < pNn G) (hl0 : l0.length ≤ 6200) (hd : 2 < d) (hpa : (qLs qv l0 pa0).2.length ≤ 46000) (hq : ∀ h', FrQ h0 h' → hB h' 114 = hB h0 114 → PaQ (qLs qv l0 pa0).2 h' → Q (some (.long (qLs qv l0 pa0).1)) h') (h114 : ∀ n, n < pNn G → hB h0 114 n = qv n) : ∀ (l1 l2 : List Nat) (h : Hp), l0 = l1 ++ l2 → FrQ h0 h → hB h 114 = hB h0 114 → (∀ i c : Nat, l0[i]? = some c → hA h 115 i = nI c) → PaQ (qLs qv l2 pa0).2 h → aWP d 235 49 [(5, .int (nI l1.length - 1)), (3, .long (qLs qv l2 pa0).1), (2, .int x2), (0, .ref 59), (1, .int (nI n))] [] h Q := by
  have hh : ∀ (m : Nat) (l1 l2 : List Nat) (h : Hp), l1.length = m → l0 = l1 ++ l2 → FrQ h0 h → hB h 114 = hB h0 114 → (∀ i c : Nat, l0[i]? = some c → hA h 115 i = nI c) → PaQ (qLs qv l2 pa0).2 h → aWP d 235 49 [(5, .int (nI l1.length - 1)), (3, .long (qLs qv l2 pa0).1), (2, .int x2), (0, .ref 59), (1, .int (nI n))] [] h Q := by
    intro m
    induction m with
    | zero =>
      intro l1 l2 h em e F e14 e15 pq
      have : l1 = [] := List.eq_nil_of_length_eq_zero em
      subst this
      rw [List.nil_append] at e
      subst e
      have fin := hq h F e14 pq
      simp only [List.length_nil]
      simp only [lv_args, z_v, z_lg, z_h, z_u, z_u1, z_c, z_ct, z_sk, sbne, lst1_d, ldel, lst2_d, ldel2, z_sw, z_rok, zi, eq_self, List.map_cons, List.map_nil, List.append_nil, List.nil_append, List.cons_append, Int32.reduceLT, Int32.reduceLE, Int32.reduceAdd, Int32.reduceSub, Int32.reduceMul, Int32.reduceToInt, Int32.reduceToNatClampNeg, Int.reduceLT, Int.reduceLE, Int.reduceNeg, true_and, and_true, or_self, or_false, false_or, false_and, and_false, true_or, or_true, if_true, if_false, ne_eq, Classical.not_not, not_true_eq_false, not_false_eq_true, true_implies, false_implies, implies_true, Nat.reduceEqDiff, Nat.reduceAdd, Nat.reduceLeDiff, Nat.reduceSub, reduceCtorEq, reduceIte, b235_49, dn_0]
      simp only [lv_args, z_v, z_lg, z_h, z_u, z_u1, z_c, z_ct, z_sk, sbne, lst1_d, ldel, lst2_d, ldel2, z_sw, z_rok, zi, eq_self, List.map_cons, List.map_nil, List.append_nil, List.nil_append, List.cons_append, Int32.reduceLT, Int32.reduceLE, Int32.reduceAdd, Int32.reduceSub, Int32.reduceMul, Int32.reduceToInt, Int32.reduceToNatClampNeg, Int.reduceLT, Int.reduceLE, Int.reduceNeg, true_and, and_true, or_self, or_false, false_or, false_and, and_false, true_or, or_true, if_true, if_false, ne_eq, Classical.not_not, not_true_eq_false, not_false_eq_true, true_implies, false_implies, implies_true, Nat.reduceEqDiff, Nat.reduceAdd, Nat.reduceLeDiff, Nat.reduceSub, reduceCtorEq, reduceIte, b235_78]
      exact fin
    | succ m ih =>
      intro l1 l2 h em e F e14 e15 pq
      obtain ⟨s, P, r17, n112, n113, n114, n115⟩ := frq_bq F b
      have hd0 : 0 < d := by omega
      have hd1 : 0 < d - 1 := by omega
      have hne : l1 ≠ [] := fun c => by rw [c] at em; simp at em
      obtain ⟨l1', c, rfl⟩ : ∃ l1' c, l1 = l1' ++ [c] := ⟨l1.dropLast, l1.getLast hne, (List.dropLast_concat_getLast hne).symm⟩
      rw [List.length_append, List.length_singleton] at em
      have hm : l1'.length = m := by omega
      have hc : c < pNn G := hl c (by rw [e]; simp)
      have pn := P.2.2.1
      have ec : hA h 115 l1'.length = nI c := e15 _ _ (by
        rw [e, List.append_assoc, List.getElem?_append_right (Nat.le_refl _), Nat.sub_self]
        rfl)
      have hlen : l1'.length < 6200 := by
        have := congrArg List.length e
        rw [List.length_append, List.length_append, List.length_singleton] at this
        omega
      have q14 : hB h 114 c = qv c := by rw [e14]; exact h114 c hc
      have hpa2 : (qLs qv l2 pa0).2.length < 46000 := by
        have h1 : (qLs qv (c :: l2) pa0).2.length = (qLs qv l2 pa0).2.length + 1 := by
          show ((qLs qv l2 pa0).2 ++ [(qv c, (qLs qv l2 pa0).1)]).length = _
          rw [List.length_append]; rfl
        have h2 : ∀ (a b : List Nat), (qLs qv b pa0).2.length ≤ (qLs qv (a ++ b) pa0).2.length := by
          intro a
          induction a with
          | nil => intro b; exact Nat.le_refl _
          | cons x a iha =>
            intro b
            have := iha b
            show _ ≤ ((qLs qv (a ++ b) pa0).2 ++ [(qv x, (qLs qv (a ++ b) pa0).1)]).length
            rw [List.length_append]
            omega
        have h3 := h2 l1' (c :: l2)
        have e' : l0 = l1' ++ c :: l2 := by rw [e]; simp
        rw [← e'] at h3
        omega
      obtain ⟨p31, pcs⟩ := pq
      have next := ih l1' (c :: l2) (pI (pB (pB h 112 (vp_updL (hB h 112) (qLs qv l2 pa0).2.length (qv c))) 113 (vp_updL (hB h 113) (qLs qv l2 pa0).2.length (qLs qv l2 pa0).1)) 59 31 (nI ((qLs qv l2 pa0).2.length + 1))) hm (by rw [e]; simp) (frq_tr F ⟨rfl, rfl, rfl, rfl, rfl, rfl, fun a i c => up2_ne c, fun _ _ => rfl, fun a c1 c2 c3 => (up1_ne c2).trans (up1_ne c1), rfl⟩) e14 e15 ⟨by
          show nI ((qLs qv l2 pa0).2.length + 1) = nI ((qLs qv l2 pa0).2 ++ [(qv c, (qLs qv l2 pa0).1)]).length
          rw [List.length_append]; rfl, fun i u v hi => by
          show (if i = (qLs qv l2 pa0).2.length then qv c else hB h 112 i) = u ∧ (if i = (qLs qv l2 pa0).2.length then (qLs qv l2 pa0).1 else hB h 113 i) = v
          have hi : ((qLs qv l2 pa0).2 ++ [(qv c, (qLs qv l2 pa0).1)])[i]? = some (u, v) := hi
          by_cases ci : i = (qLs qv l2 pa0).2.length
          · subst ci
            rw [List.getElem?_append_right (Nat.le_refl _), Nat.sub_self] at hi
            simp only [List.getElem?_cons_zero, Option.some.injEq, Prod.mk.injEq] at hi
            rw [if_pos rfl, if_pos rfl]
            exact hi
          · have hl := g_lt hi
            rw [List.length_append, List.length_singleton] at hl
            rw [List.getElem?_append_left (by omega)] at hi
            rw [if_neg ci, if_neg ci]
            exact pcs i u v hi⟩
      have nx : (qLs qv (c :: l2) pa0).1 = vof 6 (nI (qLs qv l2 pa0).2.length) := rfl
      rw [nx] at next
      rw [List.length_append, List.length_singleton]
      simp only [lv_args, z_v, z_lg, z_h, z_u, z_u1, z_c, z_ct, z_sk, sbne, lst1_d, ldel, lst2_d, ldel2, z_sw, z_rok, zi, eq_self, List.map_cons, List.map_nil, List.append_nil, List.nil_append, List.cons_append, Int32.reduceLT, Int32.reduceLE, Int32.reduceAdd, Int32.reduceSub, Int32.reduceMul, Int32.reduceToInt, Int32.reduceToNatClampNeg, Int.reduceLT, Int.reduceLE, Int.reduceNeg, true_and, and_true, or_self, or_false, false_or, false_and, and_false, true_or, or_true, if_true, if_false, ne_eq, Classical.not_not, not_true_eq_false, not_false_eq_true, true_implies, false_implies, implies_true, Nat.reduceEqDiff, Nat.reduceAdd, Nat.reduceLeDiff, Nat.reduceSub, reduceCtorEq, reduceIte, b235_49, nI_m1]
      simp (disch := omega) only [nI_lt0, not_false_eq_true, false_imp_iff, true_imp_iff, true_and]
      simp only [lv_args, z_v, z_lg, z_h, z_u, z_u1, z_c, z_ct, z_sk, sbne, lst1_d, ldel, lst2_d, ldel2, z_sw, z_rok, zi, eq_self, List.map_cons, List.map_nil, List.append_nil, List.nil_append, List.cons_append, Int32.reduceLT, Int32.reduceLE, Int32.reduceAdd, Int32.reduceSub, Int32.reduceMul, Int32.reduceToInt, Int32.reduceToNatClampNeg, Int.reduceLT, Int.reduceLE, Int.reduceNeg, true_and, and_true, or_self, or_false, false_or, false_and, and_false, true_or, or_true, if_true, if_false, ne_eq, Classical.not_not, not_true_eq_false, not_false_eq_true, true_implies, false_implies, implies_true, Nat.reduceEqDiff, Nat.reduceAdd, Nat.reduceLeDiff, Nat.reduceSub, reduceCtorEq, reduceIte, b235_54, skM s, srM s, n115]
      simp (disch := omega) only [nI_ti, nI_cl, le0N, ltNN, ec, true_and]
      refine ⟨by omega, ?_⟩
      try simp only [lv_args, z_v, z_lg, z_h, z_u, z_u1, z_c, z_ct, z_sk, sbne, lst1_d, ldel, lst2_d, ldel2, z_sw, z_rok, zi, eq_self, List.map_cons, List.map_nil, List.append_nil, List.nil_append, List.cons_append, Int32.reduceLT, Int32.reduceLE, Int32.reduceAdd, Int32.reduceSub, Int32.reduceMul, Int32.reduceToInt, Int32.reduceToNatClampNeg, Int.reduceLT, Int.reduceLE, Int.reduceNeg, true_and, and_true, or_self, or_false, false_or, false_and, and_false, true_or, or_true, if_true, if_false, ne_eq, Classical.not_not, not_true_eq_false, not_false_eq_true, true_implies, false_implies, implies_true, Nat.reduceEqDiff, Nat.reduceAdd, Nat.reduceLeDiff, Nat.reduceSub, reduceCtorEq, reduceIte, b235_54, skM s, srM s, n114]
      try simp (disch := omega) only [nI_ti, nI_cl, le0N, ltNN, q14, true_and]
      refine ⟨by omega, ?_⟩
      try simp only [lv_args, z_v, z_lg, z_h, z_u, z_u1, z_c, z_ct, z_sk, sbne, lst1_d, ldel, lst2_d, ldel2, z_sw, z_rok, zi, eq_self, List.map_cons, List.map_nil, List.append_nil, List.nil_append, List.cons_append, Int32.reduceLT, Int32.reduceLE, Int32.reduceAdd, Int32.reduceSub, Int32.reduceMul, Int32.reduceToInt, Int32.reduceToNatClampNeg, Int.reduceLT, Int.reduceLE, Int.reduceNeg, true_and, and_true, or_self, or_false, false_or, false_and, and_false, true_or, or_true, if_true, if_false, ne_eq, Classical.not_not, not_true_eq_false, not_false_eq_true, true_implies, false_implies, implies_true, Nat.reduceEqDiff, Nat.reduceAdd, Nat.reduceLeDiff, Nat.reduceSub, reduceCtorEq, reduceIte, b235_54, skM s, hd0, hd1, e245_59 _ _ s, p31, nI_1, nI_m1]
      simp (disch := omega) only [nI_ti, nI_cl, le0N, ltNN, n112, n113, true_and]
      refine ⟨by omega, by omega, ?_⟩
      try simp only [lv_args, z_v, z_lg, z_h, z_u, z_u1, z_c, z_ct, z_sk, sbne, lst1_d, ldel, lst2_d, ldel2, z_sw, z_rok, zi, eq_self, List.map_cons, List.map_nil, List.append_nil, List.nil_append, List.cons_append, Int32.reduceLT, Int32.reduceLE, Int32.reduceAdd, Int32.reduceSub, Int32.reduceMul, Int32.reduceToInt, Int32.reduceToNatClampNeg, Int.reduceLT, Int.reduceLE, Int.reduceNeg, true_and, and_true, or_self, or_false, false_or, false_and, and_false, true_or, or_true, if_true, if_false, ne_eq, Classical.not_not, not_true_eq_false, not_false_eq_true, true_implies, false_implies, implies_true, Nat.reduceEqDiff, Nat.reduceAdd, Nat.reduceLeDiff, Nat.reduceSub, reduceCtorEq, reduceIte, b235_54, skM s, Nat.reduceLT, dn_1]
      exact next
  exact fun l1 l2 h => hh l1.length l1 l2 h rfl
end BGM
