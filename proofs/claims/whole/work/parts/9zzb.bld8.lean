/-! BUILD. The class's build -/
/-- what reading and compiling may touch; what stays -/
def XBc (p a : Nat) : Prop := (1 ≤ a ∧ a ≤ 18) ∨ (39 ≤ a ∧ a ≤ 46) ∨ (p ≤ a ∧ a ≤ p + 9) ∨ 130 ≤ a
def FCb (p : Nat) (h h' : Hp) : Prop := (∀ i, i ≠ 1 → hI h' 0 i = hI h 0 i) ∧ ∀ a, ¬ XBc p a → (a ≠ 0 → hI h' a = hI h a) ∧ hL h' a = hL h a ∧ hR h' a = hR h a ∧ hA h' a = hA h a ∧ hB h' a = hB h a ∧ hN h' a = hN h a
section BLX
variable {h h' : Hp} {Q : Option Value → Hp → Prop} {d n p q p' : Nat} {t : Nat → Nat} {G : PG}
theorem kl_x {K2 : List KY} {mt2 : List Nat} {N : NS} {stk : List SE} (s : Sk h) (rm : Rm h) (yy : YY q h) (hn : n ≤ 3000) (ht : ∀ j, t j < 256) (hRt : RDt t n none K2 mt2 N stk) : 2 * K2.length ≤ n + 61 := by
  obtain ⟨T, K, mt, hS, _⟩ := scn_ex s rm yy hn ht
  exact ((glue hn hS hRt).2.1 rfl).2.2.2.2
theorem yy_of (v : Vs p q h) : YY (152 - q) h := by
  rcases v.2.1 with ⟨rfl, e1, e2⟩ | ⟨rfl, e1, e2⟩
  · exact Or.inr ⟨rfl, e1, e2⟩
  · exact Or.inl ⟨rfl, e1, e2⟩
theorem vs_67 (v : Vs p q h) (hs : p + p' = 48) : hR h 0 6 = some p ∧ hR h 0 7 = some p' := by
  rcases v.1 with ⟨rfl, e1, e2⟩ | ⟨rfl, e1, e2⟩
  · obtain rfl : p' = 29 := by omega
    exact ⟨e1, e2⟩
  · obtain rfl : p' = 19 := by omega
    exact ⟨e1, e2⟩
theorem sp_bX (s : Sk h) (vy : Vy h) (rm : Rm h) (vs : Vs p q h) (hs : p + p' = 48) (hn : n ≤ 3000) (ht : ∀ j, j < n → hA h 1 j = rb (t j)) (ht2 : ∀ j, t j < 256) (hd : 500 < d)
    (q1 : ∀ r K mt N stk h' k f, RDt t n r K mt N stk → N.1 ≤ 1 + 2 * n → (∀ k p, r = some (k, p) → 0 < k ∧ k < 10) → (r = some (k, f) ∨ (r = none ∧ rFl (cAll N mt) = some (k, f))) → CB h' → Vs p q h' → FCb p' h h' → hI h' 0 1 = 0 → hI h' 2 0 = nI k → hI h' 2 1 = nI f → Q (some (.int (-1))) h')
    (q2 : ∀ K mt N stk h' nw, RDt t n none K mt N stk → N.1 ≤ 1 + 2 * n → rFl (cAll N mt) = none → BK1 N mt nw → PX (gOf N mt nw) p' h' → CB h' → Vs p q h' → FCb p' h h' → hI h' 0 1 = 0 → hI h' 2 0 = 0 → hI h' 2 1 = -1 → aWP d 161 72 [(0, .ref 0), (1, .int (nI n))] [] h' Q) : aWP d 161 15 [(0, .ref 0), (1, .int (nI n))] [] h Q := by
  have h0 : 0 < d := by omega
  have z10 : ¬ (1 : Int32) = 0 := by decide
  obtain ⟨hp, hq⟩ := vs_p vs
  have hp' : p' = 19 ∨ p' = 29 := by omega
  have s1 : Sk (pI h 0 1 0) := sk_u1 s
  have C2 : CB (pI (pI (pI h 0 1 0) 2 0 0) 2 1 (-1)) := ⟨sk_u1 (sk_u1 s1), vy, rm_same rfl rfl rfl rm⟩
  have V2 : Vs p q (pI (pI (pI h 0 1 0) 2 0 0) 2 1 (-1)) := vs
  have n1 : hN h 1 = 3000 := rm.1.2 (1, 3000) (by decide)
  have hz : ∃ z, hR h 3 12 = some z := by
    rcases vs.2.2.2.1 with e | e
    · exact ⟨_, e⟩
    · exact ⟨_, e⟩
  obtain ⟨z, hz⟩ := hz
  have E := sp_readTextR (d := d - 1) (n := n) (t := t) (h := pI (pI (pI h 0 1 0) 2 0 0) 2 1 (-1)) (Q := fun x h' => x = none ∧ ∃ r K mt N stk, RDt t n r K mt N stk ∧ CB h' ∧ hR h' 3 12 = some 1 ∧ NT K mt h' ∧ RNs N h' ∧ N.1 ≤ 1 + 2 * n ∧ Ftd r h' ∧ (r = none → hI h' 2 1 = -1) ∧ (r = none → n / 2 + 32 ≤ hN h' 8 ∧ 1 + 2 * n ≤ hN h' 10 ∧ 1 + 2 * n ≤ hN h' 11 ∧ 1 + 2 * n ≤ hN h' 12 ∧ 1 + 2 * n ≤ hN h' 13 ∧ 1 + 2 * n ≤ hN h' 14)) C2 hz hn n1 ht ht2 rfl (by omega) (fun r K mt N stk h' a1 a2 a3 a4 a5 a6 a7 a8 a9 => ⟨rfl, r, K, mt, N, stk, a1, a2, a3, a4, a5, a6, a7, a8, a9⟩)
  have hxS : xS XR [.ref 3, .ref 1, .int (nI n)] := fun v hv k e => by
    simp only [List.mem_cons, List.not_mem_nil, or_false] at hv
    rcases hv with rfl | rfl | rfl
    · injection e with e
      subst e
      exact Or.inl ⟨by decide, by decide⟩
    · injection e with e
      subst e
      exact Or.inl ⟨by decide, by decide⟩
    · cases e
  simp only [lv_args, z_v, z_lg, z_h, z_u, z_u1, z_c, z_ct, z_sk, sbne, lst1_d, ldel, lst2_d, ldel2, z_sw, z_rok, zi, eq_self, List.map_cons, List.map_nil, List.append_nil, List.nil_append, List.cons_append, Int32.reduceLT, Int32.reduceLE, Int32.reduceAdd, Int32.reduceSub, Int32.reduceMul, Int32.reduceToInt, Int32.reduceToNatClampNeg, Int.reduceLT, Int.reduceLE, Int.reduceNeg, true_and, and_true, or_self, or_false, false_or, false_and, and_false, true_or, or_true, if_true, if_false, ne_eq, Classical.not_not, not_true_eq_false, not_false_eq_true, true_implies, false_implies, implies_true, Nat.reduceEqDiff, Nat.reduceAdd, Nat.reduceLeDiff, Nat.reduceSub, reduceCtorEq, reduceIte, b161_15, skX s, srX s, h0, e30_2 _ _ s1]
  refine aEv_mono (aEv_frame XR (rg_r C2.1 V2) hxS E) ?_
  rintro x h1 ⟨⟨rfl, r, K, mt, N, stk, a1, a2, a3, a4, a5, a6, a7, a8, a9⟩, _, sm, _⟩
  have c1 := a2.1
  have m0 := sm 0 (by unfold XR; omega)
  have m39 := sm 39 (by unfold XR; omega)
  have m47 := sm 47 (by unfold XR; omega)
  have m59 := sm 59 (by unfold XR; omega)
  have V1 : Vs p q h1 := by
    refine ⟨?_, ?_, ?_, Or.inl a3, ?_⟩
    · unfold PgX; rw [m0.2.2.1]; exact vs.1
    · unfold PgM; rw [m59.2.2.1]; exact vs.2.1
    · rw [m39.2.2.1]; exact vs.2.2.1
    · rw [m47.2.2.1]; exact vs.2.2.2.2
  have i01 : hI h1 0 1 = 0 := by rw [m0.1]; rfl
  have F1 : FCb p' h h1 := by
    refine ⟨fun i hi => ?_, fun a ha => ?_⟩
    · rw [m0.1]
      show up2 (up2 (up2 (hI h) 0 1 0) 2 0 0) 2 1 (-1) 0 i = hI h 0 i
      exact (up2_ne (by omega)).trans ((up2_ne (by omega)).trans (up2_ne (by omega)))
    · have ha' : ¬ XR a ∧ a ≠ 2 := by
        unfold XBc at ha
        unfold XR
        omega
      obtain ⟨e1, e2, e3, e4, e5, e6, _⟩ := sm a ha'.1
      refine ⟨fun h0' => ?_, e2, e3, e4, e5, e6⟩
      rw [e1]
      exact (up2_row ha'.2).trans ((up2_row ha'.2).trans (up2_row h0'))
  cases r with
  | some x =>
    obtain ⟨k, f⟩ := x
    obtain ⟨y1, y2, y3, y4, y5⟩ := a7.2 k f rfl
    have k0 : ¬ nI k = 0 := fun e => by
      have := nI_inj (a := k) (b := 0) (by omega) (by omega) e
      omega
    simp only [lv_args, z_v, z_lg, z_h, z_u, z_u1, z_c, z_ct, z_sk, sbne, lst1_d, ldel, lst2_d, ldel2, z_sw, z_rok, zi, eq_self, List.map_cons, List.map_nil, List.append_nil, List.nil_append, List.cons_append, Int32.reduceLT, Int32.reduceLE, Int32.reduceAdd, Int32.reduceSub, Int32.reduceMul, Int32.reduceToInt, Int32.reduceToNatClampNeg, Int.reduceLT, Int.reduceLE, Int.reduceNeg, true_and, and_true, or_self, or_false, false_or, false_and, and_false, true_or, or_true, if_true, if_false, ne_eq, Classical.not_not, not_true_eq_false, not_false_eq_true, true_implies, false_implies, implies_true, Nat.reduceEqDiff, Nat.reduceAdd, Nat.reduceLeDiff, Nat.reduceSub, reduceCtorEq, reduceIte, b161_15, skX s, skX c1, srX c1, h0, Nat.reduceLT, e32_2 _ _ c1, y1, k0]
    simp only [lv_args, z_v, z_lg, z_h, z_u, z_u1, z_c, z_ct, z_sk, sbne, lst1_d, ldel, lst2_d, ldel2, z_sw, z_rok, zi, eq_self, List.map_cons, List.map_nil, List.append_nil, List.nil_append, List.cons_append, Int32.reduceLT, Int32.reduceLE, Int32.reduceAdd, Int32.reduceSub, Int32.reduceMul, Int32.reduceToInt, Int32.reduceToNatClampNeg, Int.reduceLT, Int.reduceLE, Int.reduceNeg, true_and, and_true, or_self, or_false, false_or, false_and, and_false, true_or, or_true, if_true, if_false, ne_eq, Classical.not_not, not_true_eq_false, not_false_eq_true, true_implies, false_implies, implies_true, Nat.reduceEqDiff, Nat.reduceAdd, Nat.reduceLeDiff, Nat.reduceSub, reduceCtorEq, reduceIte, b161_60, skX c1, srX c1, h0, Nat.reduceLT, e32_2 _ _ c1, y1, k0]
    simp only [lv_args, z_v, z_lg, z_h, z_u, z_u1, z_c, z_ct, z_sk, sbne, lst1_d, ldel, lst2_d, ldel2, z_sw, z_rok, zi, eq_self, List.map_cons, List.map_nil, List.append_nil, List.nil_append, List.cons_append, Int32.reduceLT, Int32.reduceLE, Int32.reduceAdd, Int32.reduceSub, Int32.reduceMul, Int32.reduceToInt, Int32.reduceToNatClampNeg, Int.reduceLT, Int.reduceLE, Int.reduceNeg, true_and, and_true, or_self, or_false, false_or, false_and, and_false, true_or, or_true, if_true, if_false, ne_eq, Classical.not_not, not_true_eq_false, not_false_eq_true, true_implies, false_implies, implies_true, Nat.reduceEqDiff, Nat.reduceAdd, Nat.reduceLeDiff, Nat.reduceSub, reduceCtorEq, reduceIte, b161_70]
    exact q1 _ K mt N stk h1 k f a1 a6 (fun k' p'' e => by
      injection e with e
      injection e with e1 e2
      subst e1
      exact ⟨y3, y4⟩) (Or.inl rfl) a2 V1 F1 i01 y1 y2
  | none =>
    have e20 : hI h1 2 0 = 0 := a7.1 rfl
    obtain ⟨⟨nw, bk⟩, tr, k6, lf, pq, ⟨k30, k15⟩, nd, eC⟩ := bk_x c1 a2.2.2 (yy_of V1) hn ht2 a1 a6
    have kl := kl_x c1 a2.2.2 (yy_of V1) hn ht2 a1
    obtain ⟨r8, r10, r11, r12, r13, r14⟩ := a9 rfl
    obtain ⟨r06, r07⟩ := vs_67 V1 hs
    have hR0 : ∃ q0, hR h1 39 3 = some q0 ∧ (q0 = 19 ∨ q0 = 29) := by
      rcases V1.2.2.1 with e | e
      · exact ⟨_, e, Or.inl rfl⟩
      · exact ⟨_, e, Or.inr rfl⟩
    obtain ⟨q0, R0, hq0⟩ := hR0
    simp only [lv_args, z_v, z_lg, z_h, z_u, z_u1, z_c, z_ct, z_sk, sbne, lst1_d, ldel, lst2_d, ldel2, z_sw, z_rok, zi, eq_self, List.map_cons, List.map_nil, List.append_nil, List.nil_append, List.cons_append, Int32.reduceLT, Int32.reduceLE, Int32.reduceAdd, Int32.reduceSub, Int32.reduceMul, Int32.reduceToInt, Int32.reduceToNatClampNeg, Int.reduceLT, Int.reduceLE, Int.reduceNeg, true_and, and_true, or_self, or_false, false_or, false_and, and_false, true_or, or_true, if_true, if_false, ne_eq, Classical.not_not, not_true_eq_false, not_false_eq_true, true_implies, false_implies, implies_true, Nat.reduceEqDiff, Nat.reduceAdd, Nat.reduceLeDiff, Nat.reduceSub, reduceCtorEq, reduceIte, b161_15, skX s, skX c1, srX c1, h0, Nat.reduceLT, e32_2 _ _ c1, e20, z10]
    simp only [lv_args, z_v, z_lg, z_h, z_u, z_u1, z_c, z_ct, z_sk, sbne, lst1_d, ldel, lst2_d, ldel2, z_sw, z_rok, zi, eq_self, List.map_cons, List.map_nil, List.append_nil, List.nil_append, List.cons_append, Int32.reduceLT, Int32.reduceLE, Int32.reduceAdd, Int32.reduceSub, Int32.reduceMul, Int32.reduceToInt, Int32.reduceToNatClampNeg, Int.reduceLT, Int.reduceLE, Int.reduceNeg, true_and, and_true, or_self, or_false, false_or, false_and, and_false, true_or, or_true, if_true, if_false, ne_eq, Classical.not_not, not_true_eq_false, not_false_eq_true, true_implies, false_implies, implies_true, Nat.reduceEqDiff, Nat.reduceAdd, Nat.reduceLeDiff, Nat.reduceSub, reduceCtorEq, reduceIte, b161_49, skX c1, srX c1, h0, r07]
    refine sp_compile (nw := nw) (g := 31) a2 hp' R0 hq0 ⟨a5, by omega, by omega, by omega, by omega, by omega⟩ a4 (by omega) k30 k15 bk tr (by decide) k6 lf (fun i i1 i2 => (pq i i1 i2).1) (by omega) e20 (by omega) (fun h2 b2 R2 Ro kx ft px => ?_)
    have c2 := b2.1
    have x0 := kx 0 (by unfold XP; omega)
    have V3 : Vs p q h2 := by
      refine ⟨?_, ?_, ?_, Or.inl ((Ro 3 12 (by omega)).trans a3), ?_⟩
      · unfold PgX; rw [Ro 0 6 (by omega), Ro 0 7 (by omega)]; exact V1.1
      · unfold PgM; rw [Ro 59 17 (by omega), Ro 59 18 (by omega)]; exact V1.2.1
      · rcases hp' with e | e
        · exact Or.inl (e ▸ R2)
        · exact Or.inr (e ▸ R2)
      · rw [Ro 47 2 (by omega)]; exact V1.2.2.2.2
    have F2 : FCb p' h h2 := by
      refine ⟨fun i hi => by rw [x0.1]; exact F1.1 i hi, fun a ha => ?_⟩
      have ha' : ¬ XP p' a ∧ a ≠ 39 := by
        unfold XBc at ha
        unfold XP
        omega
      obtain ⟨e1, e2, e4, e5, e6⟩ := kx a ha'.1
      obtain ⟨f1, f2, f3, f4, f5, f6⟩ := F1.2 a ha
      refine ⟨fun w => e1.trans (f1 w), e2.trans f2, ?_, e4.trans f4, e5.trans f5, e6.trans f6⟩
      rw [← f3]
      funext b
      exact Ro a b (by omega)
    have i02 : hI h2 0 1 = 0 := by rw [x0.1]; exact i01
    simp only [lv_args, z_v, z_lg, z_h, z_u, z_u1, z_c, z_ct, z_sk, sbne, lst1_d, ldel, lst2_d, ldel2, z_sw, z_rok, zi, eq_self, List.map_cons, List.map_nil, List.append_nil, List.nil_append, List.cons_append, Int32.reduceLT, Int32.reduceLE, Int32.reduceAdd, Int32.reduceSub, Int32.reduceMul, Int32.reduceToInt, Int32.reduceToNatClampNeg, Int.reduceLT, Int.reduceLE, Int.reduceNeg, true_and, and_true, or_self, or_false, false_or, false_and, and_false, true_or, or_true, if_true, if_false, ne_eq, Classical.not_not, not_true_eq_false, not_false_eq_true, true_implies, false_implies, implies_true, Nat.reduceEqDiff, Nat.reduceAdd, Nat.reduceLeDiff, Nat.reduceSub, reduceCtorEq, reduceIte, b161_49, skX c1, skX c2, h0, Nat.reduceLT]
    cases hf : rFl (cAll N mt) with
    | none =>
      rw [hf] at ft
      obtain ⟨y1, y2⟩ := ft.1 rfl
      simp only [lv_args, z_v, z_lg, z_h, z_u, z_u1, z_c, z_ct, z_sk, sbne, lst1_d, ldel, lst2_d, ldel2, z_sw, z_rok, zi, eq_self, List.map_cons, List.map_nil, List.append_nil, List.nil_append, List.cons_append, Int32.reduceLT, Int32.reduceLE, Int32.reduceAdd, Int32.reduceSub, Int32.reduceMul, Int32.reduceToInt, Int32.reduceToNatClampNeg, Int.reduceLT, Int.reduceLE, Int.reduceNeg, true_and, and_true, or_self, or_false, false_or, false_and, and_false, true_or, or_true, if_true, if_false, ne_eq, Classical.not_not, not_true_eq_false, not_false_eq_true, true_implies, false_implies, implies_true, Nat.reduceEqDiff, Nat.reduceAdd, Nat.reduceLeDiff, Nat.reduceSub, reduceCtorEq, reduceIte, b161_60, skX c2, srX c2, h0, Nat.reduceLT, e32_2 _ _ c2, y1, z10]
      exact q2 K mt N stk h2 nw a1 a6 hf bk (px hf) b2 V3 F2 i02 y1 (y2.trans (a8 rfl))
    | some x =>
      obtain ⟨k, f⟩ := x
      rw [hf] at ft
      obtain ⟨y1, y2, y3, y4⟩ := ft.2 k f rfl
      have k0 : ¬ nI k = 0 := fun e => by
        have := nI_inj (a := k) (b := 0) (by omega) (by omega) e
        omega
      simp only [lv_args, z_v, z_lg, z_h, z_u, z_u1, z_c, z_ct, z_sk, sbne, lst1_d, ldel, lst2_d, ldel2, z_sw, z_rok, zi, eq_self, List.map_cons, List.map_nil, List.append_nil, List.nil_append, List.cons_append, Int32.reduceLT, Int32.reduceLE, Int32.reduceAdd, Int32.reduceSub, Int32.reduceMul, Int32.reduceToInt, Int32.reduceToNatClampNeg, Int.reduceLT, Int.reduceLE, Int.reduceNeg, true_and, and_true, or_self, or_false, false_or, false_and, and_false, true_or, or_true, if_true, if_false, ne_eq, Classical.not_not, not_true_eq_false, not_false_eq_true, true_implies, false_implies, implies_true, Nat.reduceEqDiff, Nat.reduceAdd, Nat.reduceLeDiff, Nat.reduceSub, reduceCtorEq, reduceIte, b161_60, skX c2, srX c2, h0, Nat.reduceLT, e32_2 _ _ c2, y1, k0]
      simp only [lv_args, z_v, z_lg, z_h, z_u, z_u1, z_c, z_ct, z_sk, sbne, lst1_d, ldel, lst2_d, ldel2, z_sw, z_rok, zi, eq_self, List.map_cons, List.map_nil, List.append_nil, List.nil_append, List.cons_append, Int32.reduceLT, Int32.reduceLE, Int32.reduceAdd, Int32.reduceSub, Int32.reduceMul, Int32.reduceToInt, Int32.reduceToNatClampNeg, Int.reduceLT, Int.reduceLE, Int.reduceNeg, true_and, and_true, or_self, or_false, false_or, false_and, and_false, true_or, or_true, if_true, if_false, ne_eq, Classical.not_not, not_true_eq_false, not_false_eq_true, true_implies, false_implies, implies_true, Nat.reduceEqDiff, Nat.reduceAdd, Nat.reduceLeDiff, Nat.reduceSub, reduceCtorEq, reduceIte, b161_70]
      exact q1 none K mt N stk h2 k f a1 a6 (fun k' p'' e => by cases e) (Or.inr ⟨rfl, hf⟩) b2 V3 F2 i02 y1 y2
/-- the new program takes its place, and the machine begins -/
theorem sp_bX72 (c : CB h) (vs : Vs p q h) (hs : p + p' = 48) (P : PX G p' h) (hW : WG G) (hd : 100 < d)
    (hq : ∀ h', SX G p' h' → RWn (z0 G) h' → hI h' 47 13 = -1 → RXp [] [] h' → hL h' 0 9 = 0 → (∀ j, j < 4 → hB h' 58 j = 0) → Vs p' q h' → hI h' 0 8 = 1 → (∀ i, i ≠ 8 → hI h' 0 i = hI h 0 i) → (∀ a, ¬ Xc a → a ≠ 0 → hI h' a = hI h a ∧ hR h' a = hR h a ∧ hA h' a = hA h a ∧ hN h' a = hN h a) → (∀ a, ¬ Xc a → a ≠ 58 → hB h' a = hB h a) → (∀ a, ¬ Xc a → a ≠ 0 → hL h' a = hL h a) → Q (some (.int 0)) h') : aWP d 161 72 [(0, .ref 0), (1, .int (nI n))] [] h Q := by
  have h0 : 0 < d := by omega
  obtain ⟨s, vy, rm⟩ := c
  obtain ⟨hp, _⟩ := vs_p vs
  have hp' : p' = 19 ∨ p' = 29 := by omega
  obtain ⟨r6, r7⟩ := vs_67 vs hs
  have sb : SB = 1000000 := rfl
  have kp : ∀ {h : Hp}, Sk h → hK h p = 7 := fun {h} s => by rcases hp with rfl | rfl <;> exact s.1 _ (by decide)
  have kp' : ∀ {h : Hp}, Sk h → hK h p' = 7 := fun {h} s => by rcases hp' with rfl | rfl <;> exact s.1 _ (by decide)
  have hsw1 : ¬ swOK h [(2, .ref p), (0, .ref 0), (1, .int (nI n))] [] 0 6 p p' := fun w => by
    have c3 := w.2.2.1
    have := kp s
    omega
  have hz : pCz G < 1000000 := by
    have := P.2.2.1
    have := (rm.2.2 (p' + 1) (by rcases hp' with rfl | rfl <;> decide)).2
    have : cpR (p' + 1) = 15100 := by rcases hp' with rfl | rfl <;> rfl
    omega
  simp only [lv_args, z_v, z_lg, z_h, z_u, z_u1, z_c, z_ct, z_sk, sbne, lst1_d, ldel, lst2_d, ldel2, z_sw, z_rok, zi, eq_self, List.map_cons, List.map_nil, List.append_nil, List.nil_append, List.cons_append, Int32.reduceLT, Int32.reduceLE, Int32.reduceAdd, Int32.reduceSub, Int32.reduceMul, Int32.reduceToInt, Int32.reduceToNatClampNeg, Int.reduceLT, Int.reduceLE, Int.reduceNeg, true_and, and_true, or_self, or_false, false_or, false_and, and_false, true_or, or_true, if_true, if_false, ne_eq, Classical.not_not, not_true_eq_false, not_false_eq_true, true_implies, false_implies, implies_true, Nat.reduceEqDiff, Nat.reduceAdd, Nat.reduceLeDiff, Nat.reduceSub, reduceCtorEq, reduceIte, b161_72, skX s, r6, r7]
  refine (k_putO (st := []) mm_161 dX11_build_82 fl_11_32 rfl (by unfold finOK; decide +kernel) r6 hsw1).mpr ⟨⟨s.1 0 (by decide), by omega⟩, ?_⟩
  have s1 : Sk (pR h 0 6 (some p')) := sk_vr rfl s
  have r7' : hR (pR h 0 6 (some p')) 0 7 = some p' := r7
  have hsw2 : ¬ swOK (pR h 0 6 (some p')) [(2, .ref p), (0, .ref 0), (1, .int (nI n))] [] 0 7 p' p := fun w => by
    have c3 := w.2.2.1
    have := kp' s1
    omega
  simp only [lv_args, z_v, z_lg, z_h, z_u, z_u1, z_c, z_ct, z_sk, sbne, lst1_d, ldel, lst2_d, ldel2, z_sw, z_rok, zi, eq_self, List.map_cons, List.map_nil, List.append_nil, List.nil_append, List.cons_append, Int32.reduceLT, Int32.reduceLE, Int32.reduceAdd, Int32.reduceSub, Int32.reduceMul, Int32.reduceToInt, Int32.reduceToNatClampNeg, Int.reduceLT, Int.reduceLE, Int.reduceNeg, true_and, and_true, or_self, or_false, false_or, false_and, and_false, true_or, or_true, if_true, if_false, ne_eq, Classical.not_not, not_true_eq_false, not_false_eq_true, true_implies, false_implies, implies_true, Nat.reduceEqDiff, Nat.reduceAdd, Nat.reduceLeDiff, Nat.reduceSub, reduceCtorEq, reduceIte, b161_72, skX s]
  refine (k_putO (st := []) mm_161 dX11_build_87 fl_11_36 rfl (by unfold finOK; decide +kernel) r7' hsw2).mpr ⟨⟨s1.1 0 (by decide), by omega⟩, ?_⟩
  have s2 : Sk (pR (pR h 0 6 (some p')) 0 7 (some p)) := sk_vr rfl s1
  have s3 : Sk (pI (pR (pR h 0 6 (some p')) 0 7 (some p)) 0 8 1) := sk_u1 s2
  have V3 : Vs p' q (pI (pR (pR h 0 6 (some p')) 0 7 (some p)) 0 8 1) := by
    refine ⟨?_, vs.2.1, vs.2.2.1, vs.2.2.2.1, vs.2.2.2.2⟩
    rcases hp with rfl | rfl
    · obtain rfl : p' = 29 := by omega
      exact Or.inr ⟨rfl, rfl, rfl⟩
    · obtain rfl : p' = 19 := by omega
      exact Or.inl ⟨rfl, rfl, rfl⟩
  have P3 : PX G p' (pI (pR (pR h 0 6 (some p')) 0 7 (some p)) 0 8 1) := px_same (up2_row (by omega)) (fun j hj => ⟨rfl, rfl, rfl⟩) P
  simp only [lv_args, z_v, z_lg, z_h, z_u, z_u1, z_c, z_ct, z_sk, sbne, lst1_d, ldel, lst2_d, ldel2, z_sw, z_rok, zi, eq_self, List.map_cons, List.map_nil, List.append_nil, List.nil_append, List.cons_append, Int32.reduceLT, Int32.reduceLE, Int32.reduceAdd, Int32.reduceSub, Int32.reduceMul, Int32.reduceToInt, Int32.reduceToNatClampNeg, Int.reduceLT, Int.reduceLE, Int.reduceNeg, true_and, and_true, or_self, or_false, false_or, false_and, and_false, true_or, or_true, if_true, if_false, ne_eq, Classical.not_not, not_true_eq_false, not_false_eq_true, true_implies, false_implies, implies_true, Nat.reduceEqDiff, Nat.reduceAdd, Nat.reduceLeDiff, Nat.reduceSub, reduceCtorEq, reduceIte, b161_72, skX s, h0]
  refine sp_begAnew s3 (vy_vr (by omega) (vy_vr (by omega) vy)) (rm_same rfl rfl rfl rm) P3 hz hW V3 (by omega) (fun h' x1 x2 x3 x4 x5 x6 x7 x8 x9 => ?_)
  have s4 := x1.1
  simp only [lv_args, z_v, z_lg, z_h, z_u, z_u1, z_c, z_ct, z_sk, sbne, lst1_d, ldel, lst2_d, ldel2, z_sw, z_rok, zi, eq_self, List.map_cons, List.map_nil, List.append_nil, List.nil_append, List.cons_append, Int32.reduceLT, Int32.reduceLE, Int32.reduceAdd, Int32.reduceSub, Int32.reduceMul, Int32.reduceToInt, Int32.reduceToNatClampNeg, Int.reduceLT, Int.reduceLE, Int.reduceNeg, true_and, and_true, or_self, or_false, false_or, false_and, and_false, true_or, or_true, if_true, if_false, ne_eq, Classical.not_not, not_true_eq_false, not_false_eq_true, true_implies, false_implies, implies_true, Nat.reduceEqDiff, Nat.reduceAdd, Nat.reduceLeDiff, Nat.reduceSub, reduceCtorEq, reduceIte, b161_72, skX s, skX s4, h0, kp s, kp s4, Nat.reduceLT]
  have e0 := x7 0 (by omega)
  have e3 := x7 3 (by omega)
  have e39 := x7 39 (by omega)
  have e59 := x7 59 (by omega)
  refine hq h' x1 x2 x3 x4 x5 x6 ?_ ?_ (fun i hi => ?_) (fun a ha h0' => ?_) (fun a ha h58 => x8 a ha h58) (fun a ha h0' => x9 a ha h0')
  · refine ⟨?_, ?_, ?_, ?_, ?_⟩
    · unfold PgX; rw [e0.2.1]; exact V3.1
    · unfold PgM; rw [e59.2.1]; exact V3.2.1
    · rw [e39.2.1]; exact V3.2.2.1
    · rw [e3.2.1]; exact V3.2.2.2.1
    · rcases hp' with e | e
      · exact Or.inl (e ▸ x1.2.2.2.2.1)
      · exact Or.inr (e ▸ x1.2.2.2.2.1)
  · rw [e0.1]; rfl
  · rw [e0.1]; exact up2_ne (by omega)
  · obtain ⟨f1, f2, f3, f4⟩ := x7 a ha
    exact ⟨f1.trans (up2_row h0'), f2.trans ((up2_row h0').trans (up2_row h0')), f3, f4⟩
end BLX
