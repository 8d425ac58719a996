/-! boxes that are found, boxes that are free -/
section REN
variable {h h' : Hp} {Q : Option Value → Hp → Prop} {d : Nat} {G : PG} {q : Nat} {qv : Nat → Int64}
theorem fch_up {f : Nat → Int32} {x : Nat} {v : Int32} : ∀ {l : List Nat} {c : Int32}, x ∉ l → Fch f c l → Fch (upd f x v) c l
  | [], _, _, h => h
  | b :: l, c, hx, h => by
    obtain ⟨h1, h2, h3⟩ := h
    simp only [List.mem_cons, not_or] at hx
    refine ⟨h1, h2, ?_⟩
    have : upd f x v b = f b := if_neg (Ne.symm hx.1)
    rw [this]
    exact fch_up hx.2 h3
theorem c1_loop {len : Nat} (s : Sk h) (hl : hN h 119 = len) (hl2 : hN h 120 = len) (hn : len ≤ 300000) (hq : ∀ f, (∀ b, b < len → f b = -1) → aWP d 196 24 [(1, .int (nI len)), (0, .ref 59)] [] (pA h 120 f) Q) : ∀ (m j : Nat) (f : Nat → Int32), j + m = len → (∀ b, b < j → f b = -1) → aWP d 196 2 [(1, .int (nI j)), (0, .ref 59)] [] (pA h 120 f) Q := by
  intro m
  induction m with
  | zero =>
    intro j f hj hf
    have hj : j = len := by omega
    subst hj
    simp only [lv_args, z_v, z_lg, z_h, z_u, z_u1, z_c, z_ct, z_sk, sbne, lst1_d, ldel, lst2_d, ldel2, z_sw, z_rok, zi, eq_self, List.map_cons, List.map_nil, List.append_nil, List.nil_append, List.cons_append, Int32.reduceLT, Int32.reduceLE, Int32.reduceAdd, Int32.reduceSub, Int32.reduceMul, Int32.reduceToInt, Int32.reduceToNatClampNeg, Int.reduceLT, Int.reduceLE, Int.reduceNeg, true_and, and_true, or_self, or_false, false_or, false_and, and_false, true_or, or_true, if_true, if_false, ne_eq, Classical.not_not, not_true_eq_false, not_false_eq_true, true_implies, false_implies, implies_true, Nat.reduceEqDiff, Nat.reduceAdd, Nat.reduceLeDiff, Nat.reduceSub, reduceCtorEq, reduceIte, b196_2, skM s, srM s, hl, Nat.reduceLeDiff]
    simp (disch := omega) only [nI_leN]
    exact ⟨fun _ => hq f hf, fun c => absurd (Nat.le_refl _) c⟩
  | succ m ih =>
    intro j f hj hf
    have next := ih (j + 1) (upd f j (-1)) (by omega) (fun b hb => by
      unfold upd
      by_cases c : b = j
      · rw [if_pos c]
      · rw [if_neg c]; exact hf b (by omega))
    have e1 : hA (pA h 120 f) 120 = f := (up1_eq : va_up (hA h) 120 f 120 = f)
    rw [← pA_pA h 120 f (upd f j (-1))] at next
    simp only [lv_args, z_v, z_lg, z_h, z_u, z_u1, z_c, z_ct, z_sk, sbne, lst1_d, ldel, lst2_d, ldel2, z_sw, z_rok, zi, eq_self, List.map_cons, List.map_nil, List.append_nil, List.nil_append, List.cons_append, Int32.reduceLT, Int32.reduceLE, Int32.reduceAdd, Int32.reduceSub, Int32.reduceMul, Int32.reduceToInt, Int32.reduceToNatClampNeg, Int.reduceLT, Int.reduceLE, Int.reduceNeg, true_and, and_true, or_self, or_false, false_or, false_and, and_false, true_or, or_true, if_true, if_false, ne_eq, Classical.not_not, not_true_eq_false, not_false_eq_true, true_implies, false_implies, implies_true, Nat.reduceEqDiff, Nat.reduceAdd, Nat.reduceLeDiff, Nat.reduceSub, reduceCtorEq, reduceIte, b196_2, skM s, srM s, hl, Nat.reduceLeDiff]
    simp (disch := omega) only [nI_leN]
    refine ⟨fun c => absurd c (by omega), fun _ => ?_⟩
    simp only [lv_args, z_v, z_lg, z_h, z_u, z_u1, z_c, z_ct, z_sk, sbne, lst1_d, ldel, lst2_d, ldel2, z_sw, z_rok, zi, eq_self, List.map_cons, List.map_nil, List.append_nil, List.nil_append, List.cons_append, Int32.reduceLT, Int32.reduceLE, Int32.reduceAdd, Int32.reduceSub, Int32.reduceMul, Int32.reduceToInt, Int32.reduceToNatClampNeg, Int.reduceLT, Int.reduceLE, Int.reduceNeg, true_and, and_true, or_self, or_false, false_or, false_and, and_false, true_or, or_true, if_true, if_false, ne_eq, Classical.not_not, not_true_eq_false, not_false_eq_true, true_implies, false_implies, implies_true, Nat.reduceEqDiff, Nat.reduceAdd, Nat.reduceLeDiff, Nat.reduceSub, reduceCtorEq, reduceIte, b196_11, skM s, srM s, hl2]
    simp (disch := omega) only [nI_ti, nI_cl, le0N, ltNN, true_and]
    refine ⟨by omega, ?_⟩
    try simp only [lv_args, z_v, z_lg, z_h, z_u, z_u1, z_c, z_ct, z_sk, sbne, lst1_d, ldel, lst2_d, ldel2, z_sw, z_rok, zi, eq_self, List.map_cons, List.map_nil, List.append_nil, List.nil_append, List.cons_append, Int32.reduceLT, Int32.reduceLE, Int32.reduceAdd, Int32.reduceSub, Int32.reduceMul, Int32.reduceToInt, Int32.reduceToNatClampNeg, Int.reduceLT, Int.reduceLE, Int.reduceNeg, true_and, and_true, or_self, or_false, false_or, false_and, and_false, true_or, or_true, if_true, if_false, ne_eq, Classical.not_not, not_true_eq_false, not_false_eq_true, true_implies, false_implies, implies_true, Nat.reduceEqDiff, Nat.reduceAdd, Nat.reduceLeDiff, Nat.reduceSub, reduceCtorEq, reduceIte, b196_11, nI_1]
    exact next
theorem c2_loop {len km : Nat} (s : Sk h) (hl : hN h 119 = len) (hl2 : hN h 120 = len) (hn : len ≤ 300000) (h38 : hI h 59 38 = nI km) (hkm : km ≤ 40000) (h118 : hN h 118 = 40001) (hk : ∀ i, i < km → ∃ x, x < len ∧ hA h 118 i = nI x) (hq : ∀ f, (∀ x, x < len → (f x = -1 ∨ f x = -2) ∧ (f x = -2 ↔ ∃ i, i < km ∧ hA h 118 i = nI x)) → aWP d 196 53 [(1, .int (nI km)), (0, .ref 59)] [] (pA h 120 f) Q) : ∀ (m j : Nat) (f : Nat → Int32), j + m = km → (∀ x, x < len → (f x = -1 ∨ f x = -2) ∧ (f x = -2 ↔ ∃ i, i < j ∧ hA h 118 i = nI x)) → aWP d 196 26 [(1, .int (nI j)), (0, .ref 59)] [] (pA h 120 f) Q := by
  intro m
  induction m with
  | zero =>
    intro j f hj hf
    have hj : j = km := by omega
    subst hj
    simp only [lv_args, z_v, z_lg, z_h, z_u, z_u1, z_c, z_ct, z_sk, sbne, lst1_d, ldel, lst2_d, ldel2, z_sw, z_rok, zi, eq_self, List.map_cons, List.map_nil, List.append_nil, List.nil_append, List.cons_append, Int32.reduceLT, Int32.reduceLE, Int32.reduceAdd, Int32.reduceSub, Int32.reduceMul, Int32.reduceToInt, Int32.reduceToNatClampNeg, Int.reduceLT, Int.reduceLE, Int.reduceNeg, true_and, and_true, or_self, or_false, false_or, false_and, and_false, true_or, or_true, if_true, if_false, ne_eq, Classical.not_not, not_true_eq_false, not_false_eq_true, true_implies, false_implies, implies_true, Nat.reduceEqDiff, Nat.reduceAdd, Nat.reduceLeDiff, Nat.reduceSub, reduceCtorEq, reduceIte, b196_26, skM s, h38]
    simp (disch := omega) only [nI_leN]
    exact ⟨fun _ => hq f hf, fun c => absurd (Nat.le_refl _) c⟩
  | succ m ih =>
    intro j f hj hf
    obtain ⟨x, x1, x2⟩ := hk j (by omega)
    have next := ih (j + 1) (upd f x (-2)) (by omega) (fun y hy => by
      unfold upd
      by_cases c : y = x
      · rw [if_pos c]
        exact ⟨Or.inr rfl, fun _ => ⟨j, by omega, c ▸ x2⟩, fun _ => rfl⟩
      · rw [if_neg c]
        refine ⟨(hf y hy).1, fun e => ?_, fun ⟨i, i1, i2⟩ => (hf y hy).2.mpr ⟨i, ?_, i2⟩⟩
        · obtain ⟨i, i1, i2⟩ := (hf y hy).2.mp e
          exact ⟨i, by omega, i2⟩
        · rcases Nat.lt_or_ge i j with h1 | h1
          · exact h1
          · have : i = j := by omega
            subst this
            rw [x2] at i2
            exact absurd (nI_inj (by omega) (by omega) i2).symm c)
    rw [← pA_pA h 120 f (upd f x (-2))] at next
    simp only [lv_args, z_v, z_lg, z_h, z_u, z_u1, z_c, z_ct, z_sk, sbne, lst1_d, ldel, lst2_d, ldel2, z_sw, z_rok, zi, eq_self, List.map_cons, List.map_nil, List.append_nil, List.nil_append, List.cons_append, Int32.reduceLT, Int32.reduceLE, Int32.reduceAdd, Int32.reduceSub, Int32.reduceMul, Int32.reduceToInt, Int32.reduceToNatClampNeg, Int.reduceLT, Int.reduceLE, Int.reduceNeg, true_and, and_true, or_self, or_false, false_or, false_and, and_false, true_or, or_true, if_true, if_false, ne_eq, Classical.not_not, not_true_eq_false, not_false_eq_true, true_implies, false_implies, implies_true, Nat.reduceEqDiff, Nat.reduceAdd, Nat.reduceLeDiff, Nat.reduceSub, reduceCtorEq, reduceIte, b196_26, skM s, h38]
    simp (disch := omega) only [nI_leN]
    refine ⟨fun c => absurd c (by omega), fun _ => ?_⟩
    simp only [lv_args, z_v, z_lg, z_h, z_u, z_u1, z_c, z_ct, z_sk, sbne, lst1_d, ldel, lst2_d, ldel2, z_sw, z_rok, zi, eq_self, List.map_cons, List.map_nil, List.append_nil, List.nil_append, List.cons_append, Int32.reduceLT, Int32.reduceLE, Int32.reduceAdd, Int32.reduceSub, Int32.reduceMul, Int32.reduceToInt, Int32.reduceToNatClampNeg, Int.reduceLT, Int.reduceLE, Int.reduceNeg, true_and, and_true, or_self, or_false, false_or, false_and, and_false, true_or, or_true, if_true, if_false, ne_eq, Classical.not_not, not_true_eq_false, not_false_eq_true, true_implies, false_implies, implies_true, Nat.reduceEqDiff, Nat.reduceAdd, Nat.reduceLeDiff, Nat.reduceSub, reduceCtorEq, reduceIte, b196_34, skM s, srM s, h118, hl2]
    simp (disch := omega) only [nI_ti, nI_cl, le0N, ltNN, x2, true_and]
    refine ⟨by omega, ?_⟩
    try simp only [lv_args, z_v, z_lg, z_h, z_u, z_u1, z_c, z_ct, z_sk, sbne, lst1_d, ldel, lst2_d, ldel2, z_sw, z_rok, zi, eq_self, List.map_cons, List.map_nil, List.append_nil, List.nil_append, List.cons_append, Int32.reduceLT, Int32.reduceLE, Int32.reduceAdd, Int32.reduceSub, Int32.reduceMul, Int32.reduceToInt, Int32.reduceToNatClampNeg, Int.reduceLT, Int.reduceLE, Int.reduceNeg, true_and, and_true, or_self, or_false, false_or, false_and, and_false, true_or, or_true, if_true, if_false, ne_eq, Classical.not_not, not_true_eq_false, not_false_eq_true, true_implies, false_implies, implies_true, Nat.reduceEqDiff, Nat.reduceAdd, Nat.reduceLeDiff, Nat.reduceSub, reduceCtorEq, reduceIte, b196_34]
    try simp (disch := omega) only [nI_ti, nI_cl, le0N, ltNN, true_and]
    refine ⟨x1, ?_⟩
    try simp only [lv_args, z_v, z_lg, z_h, z_u, z_u1, z_c, z_ct, z_sk, sbne, lst1_d, ldel, lst2_d, ldel2, z_sw, z_rok, zi, eq_self, List.map_cons, List.map_nil, List.append_nil, List.nil_append, List.cons_append, Int32.reduceLT, Int32.reduceLE, Int32.reduceAdd, Int32.reduceSub, Int32.reduceMul, Int32.reduceToInt, Int32.reduceToNatClampNeg, Int.reduceLT, Int.reduceLE, Int.reduceNeg, true_and, and_true, or_self, or_false, false_or, false_and, and_false, true_or, or_true, if_true, if_false, ne_eq, Classical.not_not, not_true_eq_false, not_false_eq_true, true_implies, false_implies, implies_true, Nat.reduceEqDiff, Nat.reduceAdd, Nat.reduceLeDiff, Nat.reduceSub, reduceCtorEq, reduceIte, b196_34, nI_1]
    exact next
theorem c3_loop {len tp : Nat} {K : Nat → Prop} (s : Sk h) (hl2 : hN h 120 = len) (hn : len ≤ 300000) (h44 : hI h 59 44 = nI tp) (htp : tp ≤ hN h 121) (h121 : hN h 121 ≤ 262144) (hk : ∀ i, i < tp → hA h 121 i = -1 ∨ ∃ x, x < len ∧ hA h 121 i = nI x) (hq : ∀ f, (∀ x, x < len → (f x = -1 ∨ f x = -2) ∧ (f x = -2 ↔ K x ∨ ∃ i, i < tp ∧ hA h 121 i = nI x)) → aWP d 196 92 [(1, .int (nI tp)), (0, .ref 59)] [] (pA h 120 f) Q) : ∀ (m j : Nat) (f : Nat → Int32), j + m = tp → (∀ x, x < len → (f x = -1 ∨ f x = -2) ∧ (f x = -2 ↔ K x ∨ ∃ i, i < j ∧ hA h 121 i = nI x)) → aWP d 196 55 [(1, .int (nI j)), (0, .ref 59)] [] (pA h 120 f) Q := by
  intro m
  induction m with
  | zero =>
    intro j f hj hf
    have hj : j = tp := by omega
    subst hj
    simp only [lv_args, z_v, z_lg, z_h, z_u, z_u1, z_c, z_ct, z_sk, sbne, lst1_d, ldel, lst2_d, ldel2, z_sw, z_rok, zi, eq_self, List.map_cons, List.map_nil, List.append_nil, List.nil_append, List.cons_append, Int32.reduceLT, Int32.reduceLE, Int32.reduceAdd, Int32.reduceSub, Int32.reduceMul, Int32.reduceToInt, Int32.reduceToNatClampNeg, Int.reduceLT, Int.reduceLE, Int.reduceNeg, true_and, and_true, or_self, or_false, false_or, false_and, and_false, true_or, or_true, if_true, if_false, ne_eq, Classical.not_not, not_true_eq_false, not_false_eq_true, true_implies, false_implies, implies_true, Nat.reduceEqDiff, Nat.reduceAdd, Nat.reduceLeDiff, Nat.reduceSub, reduceCtorEq, reduceIte, b196_55, skM s, h44]
    simp (disch := omega) only [nI_leN]
    exact ⟨fun _ => hq f hf, fun c => absurd (Nat.le_refl _) c⟩
  | succ m ih =>
    intro j f hj hf
    simp only [lv_args, z_v, z_lg, z_h, z_u, z_u1, z_c, z_ct, z_sk, sbne, lst1_d, ldel, lst2_d, ldel2, z_sw, z_rok, zi, eq_self, List.map_cons, List.map_nil, List.append_nil, List.nil_append, List.cons_append, Int32.reduceLT, Int32.reduceLE, Int32.reduceAdd, Int32.reduceSub, Int32.reduceMul, Int32.reduceToInt, Int32.reduceToNatClampNeg, Int.reduceLT, Int.reduceLE, Int.reduceNeg, true_and, and_true, or_self, or_false, false_or, false_and, and_false, true_or, or_true, if_true, if_false, ne_eq, Classical.not_not, not_true_eq_false, not_false_eq_true, true_implies, false_implies, implies_true, Nat.reduceEqDiff, Nat.reduceAdd, Nat.reduceLeDiff, Nat.reduceSub, reduceCtorEq, reduceIte, b196_55, skM s, h44]
    simp (disch := omega) only [nI_leN]
    refine ⟨fun c => absurd c (by omega), fun _ => ?_⟩
    rcases hk j (by omega) with e | ⟨x, x1, x2⟩
    · have next := ih (j + 1) f (by omega) (fun y hy => ⟨(hf y hy).1, fun e' => ((hf y hy).2.mp e').imp id (fun ⟨i, i1, i2⟩ => ⟨i, by omega, i2⟩), fun e' => (hf y hy).2.mpr (e'.imp id (fun ⟨i, i1, i2⟩ => ⟨i, by
        rcases Nat.lt_or_ge i j with h1 | h1
        · exact h1
        · have : i = j := by omega
          subst this
          rw [e] at i2
          have := congrArg Int32.toInt i2
          rw [nI_toInt (by omega)] at this
          have h2 : (-1 : Int32).toInt = -1 := by decide
          omega, i2⟩))⟩)
      simp only [lv_args, z_v, z_lg, z_h, z_u, z_u1, z_c, z_ct, z_sk, sbne, lst1_d, ldel, lst2_d, ldel2, z_sw, z_rok, zi, eq_self, List.map_cons, List.map_nil, List.append_nil, List.nil_append, List.cons_append, Int32.reduceLT, Int32.reduceLE, Int32.reduceAdd, Int32.reduceSub, Int32.reduceMul, Int32.reduceToInt, Int32.reduceToNatClampNeg, Int.reduceLT, Int.reduceLE, Int.reduceNeg, true_and, and_true, or_self, or_false, false_or, false_and, and_false, true_or, or_true, if_true, if_false, ne_eq, Classical.not_not, not_true_eq_false, not_false_eq_true, true_implies, false_implies, implies_true, Nat.reduceEqDiff, Nat.reduceAdd, Nat.reduceLeDiff, Nat.reduceSub, reduceCtorEq, reduceIte, b196_63, skM s, srM s]
      simp (disch := omega) only [nI_ti, nI_cl, le0N, ltNN, e, true_and]
      refine ⟨by omega, ?_⟩
      try simp only [lv_args, z_v, z_lg, z_h, z_u, z_u1, z_c, z_ct, z_sk, sbne, lst1_d, ldel, lst2_d, ldel2, z_sw, z_rok, zi, eq_self, List.map_cons, List.map_nil, List.append_nil, List.nil_append, List.cons_append, Int32.reduceLT, Int32.reduceLE, Int32.reduceAdd, Int32.reduceSub, Int32.reduceMul, Int32.reduceToInt, Int32.reduceToNatClampNeg, Int.reduceLT, Int.reduceLE, Int.reduceNeg, true_and, and_true, or_self, or_false, false_or, false_and, and_false, true_or, or_true, if_true, if_false, ne_eq, Classical.not_not, not_true_eq_false, not_false_eq_true, true_implies, false_implies, implies_true, Nat.reduceEqDiff, Nat.reduceAdd, Nat.reduceLeDiff, Nat.reduceSub, reduceCtorEq, reduceIte, b196_63]
      simp only [lv_args, z_v, z_lg, z_h, z_u, z_u1, z_c, z_ct, z_sk, sbne, lst1_d, ldel, lst2_d, ldel2, z_sw, z_rok, zi, eq_self, List.map_cons, List.map_nil, List.append_nil, List.nil_append, List.cons_append, Int32.reduceLT, Int32.reduceLE, Int32.reduceAdd, Int32.reduceSub, Int32.reduceMul, Int32.reduceToInt, Int32.reduceToNatClampNeg, Int.reduceLT, Int.reduceLE, Int.reduceNeg, true_and, and_true, or_self, or_false, false_or, false_and, and_false, true_or, or_true, if_true, if_false, ne_eq, Classical.not_not, not_true_eq_false, not_false_eq_true, true_implies, false_implies, implies_true, Nat.reduceEqDiff, Nat.reduceAdd, Nat.reduceLeDiff, Nat.reduceSub, reduceCtorEq, reduceIte, b196_86, nI_1]
      exact next
    · have ne : ¬ nI x = -1 := fun c => by
        have := congrArg Int32.toInt c
        rw [nI_toInt (by omega)] at this
        have h2 : (-1 : Int32).toInt = -1 := by decide
        omega
      have next := ih (j + 1) (upd f x (-2)) (by omega) (fun y hy => by
        unfold upd
        by_cases c : y = x
        · rw [if_pos c]
          exact ⟨Or.inr rfl, fun _ => Or.inr ⟨j, by omega, c ▸ x2⟩, fun _ => rfl⟩
        · rw [if_neg c]
          refine ⟨(hf y hy).1, fun e' => ((hf y hy).2.mp e').imp id (fun ⟨i, i1, i2⟩ => ⟨i, by omega, i2⟩), fun e' => (hf y hy).2.mpr (e'.imp id (fun ⟨i, i1, i2⟩ => ⟨i, ?_, i2⟩))⟩
          rcases Nat.lt_or_ge i j with h1 | h1
          · exact h1
          · have : i = j := by omega
            subst this
            rw [x2] at i2
            exact absurd (nI_inj (by omega) (by omega) i2).symm c)
      rw [← pA_pA h 120 f (upd f x (-2))] at next
      simp only [lv_args, z_v, z_lg, z_h, z_u, z_u1, z_c, z_ct, z_sk, sbne, lst1_d, ldel, lst2_d, ldel2, z_sw, z_rok, zi, eq_self, List.map_cons, List.map_nil, List.append_nil, List.nil_append, List.cons_append, Int32.reduceLT, Int32.reduceLE, Int32.reduceAdd, Int32.reduceSub, Int32.reduceMul, Int32.reduceToInt, Int32.reduceToNatClampNeg, Int.reduceLT, Int.reduceLE, Int.reduceNeg, true_and, and_true, or_self, or_false, false_or, false_and, and_false, true_or, or_true, if_true, if_false, ne_eq, Classical.not_not, not_true_eq_false, not_false_eq_true, true_implies, false_implies, implies_true, Nat.reduceEqDiff, Nat.reduceAdd, Nat.reduceLeDiff, Nat.reduceSub, reduceCtorEq, reduceIte, b196_63, skM s, srM s]
      simp (disch := omega) only [nI_ti, nI_cl, le0N, ltNN, x2, true_and]
      refine ⟨by omega, ?_⟩
      try simp only [lv_args, z_v, z_lg, z_h, z_u, z_u1, z_c, z_ct, z_sk, sbne, lst1_d, ldel, lst2_d, ldel2, z_sw, z_rok, zi, eq_self, List.map_cons, List.map_nil, List.append_nil, List.nil_append, List.cons_append, Int32.reduceLT, Int32.reduceLE, Int32.reduceAdd, Int32.reduceSub, Int32.reduceMul, Int32.reduceToInt, Int32.reduceToNatClampNeg, Int.reduceLT, Int.reduceLE, Int.reduceNeg, true_and, and_true, or_self, or_false, false_or, false_and, and_false, true_or, or_true, if_true, if_false, ne_eq, Classical.not_not, not_true_eq_false, not_false_eq_true, true_implies, false_implies, implies_true, Nat.reduceEqDiff, Nat.reduceAdd, Nat.reduceLeDiff, Nat.reduceSub, reduceCtorEq, reduceIte, b196_63, ne]
      simp only [lv_args, z_v, z_lg, z_h, z_u, z_u1, z_c, z_ct, z_sk, sbne, lst1_d, ldel, lst2_d, ldel2, z_sw, z_rok, zi, eq_self, List.map_cons, List.map_nil, List.append_nil, List.nil_append, List.cons_append, Int32.reduceLT, Int32.reduceLE, Int32.reduceAdd, Int32.reduceSub, Int32.reduceMul, Int32.reduceToInt, Int32.reduceToNatClampNeg, Int.reduceLT, Int.reduceLE, Int.reduceNeg, true_and, and_true, or_self, or_false, false_or, false_and, and_false, true_or, or_true, if_true, if_false, ne_eq, Classical.not_not, not_true_eq_false, not_false_eq_true, true_implies, false_implies, implies_true, Nat.reduceEqDiff, Nat.reduceAdd, Nat.reduceLeDiff, Nat.reduceSub, reduceCtorEq, reduceIte, b196_73, skM s, srM s, hl2]
      simp (disch := omega) only [nI_ti, nI_cl, le0N, ltNN, x2, true_and]
      refine ⟨by omega, ?_⟩
      try simp only [lv_args, z_v, z_lg, z_h, z_u, z_u1, z_c, z_ct, z_sk, sbne, lst1_d, ldel, lst2_d, ldel2, z_sw, z_rok, zi, eq_self, List.map_cons, List.map_nil, List.append_nil, List.nil_append, List.cons_append, Int32.reduceLT, Int32.reduceLE, Int32.reduceAdd, Int32.reduceSub, Int32.reduceMul, Int32.reduceToInt, Int32.reduceToNatClampNeg, Int.reduceLT, Int.reduceLE, Int.reduceNeg, true_and, and_true, or_self, or_false, false_or, false_and, and_false, true_or, or_true, if_true, if_false, ne_eq, Classical.not_not, not_true_eq_false, not_false_eq_true, true_implies, false_implies, implies_true, Nat.reduceEqDiff, Nat.reduceAdd, Nat.reduceLeDiff, Nat.reduceSub, reduceCtorEq, reduceIte, b196_73]
      try simp (disch := omega) only [nI_ti, nI_cl, le0N, ltNN, true_and]
      refine ⟨x1, ?_⟩
      try simp only [lv_args, z_v, z_lg, z_h, z_u, z_u1, z_c, z_ct, z_sk, sbne, lst1_d, ldel, lst2_d, ldel2, z_sw, z_rok, zi, eq_self, List.map_cons, List.map_nil, List.append_nil, List.nil_append, List.cons_append, Int32.reduceLT, Int32.reduceLE, Int32.reduceAdd, Int32.reduceSub, Int32.reduceMul, Int32.reduceToInt, Int32.reduceToNatClampNeg, Int.reduceLT, Int.reduceLE, Int.reduceNeg, true_and, and_true, or_self, or_false, false_or, false_and, and_false, true_or, or_true, if_true, if_false, ne_eq, Classical.not_not, not_true_eq_false, not_false_eq_true, true_implies, false_implies, implies_true, Nat.reduceEqDiff, Nat.reduceAdd, Nat.reduceLeDiff, Nat.reduceSub, reduceCtorEq, reduceIte, b196_73]
      simp only [lv_args, z_v, z_lg, z_h, z_u, z_u1, z_c, z_ct, z_sk, sbne, lst1_d, ldel, lst2_d, ldel2, z_sw, z_rok, zi, eq_self, List.map_cons, List.map_nil, List.append_nil, List.nil_append, List.cons_append, Int32.reduceLT, Int32.reduceLE, Int32.reduceAdd, Int32.reduceSub, Int32.reduceMul, Int32.reduceToInt, Int32.reduceToNatClampNeg, Int.reduceLT, Int.reduceLE, Int.reduceNeg, true_and, and_true, or_self, or_false, false_or, false_and, and_false, true_or, or_true, if_true, if_false, ne_eq, Classical.not_not, not_true_eq_false, not_false_eq_true, true_implies, false_implies, implies_true, Nat.reduceEqDiff, Nat.reduceAdd, Nat.reduceLeDiff, Nat.reduceSub, reduceCtorEq, reduceIte, b196_86, nI_1]
      exact next
end REN
