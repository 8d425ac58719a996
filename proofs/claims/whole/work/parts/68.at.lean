/-! at -/
/-- what procedures tell of themselves -/
def Pw (D : VD) (p q : Nat) (h : Hp) : Prop := ∃ sz lam, hI h 48 1 = nI sz ∧ sz ≤ hN h 49 ∧ sz < 10000000 ∧ hI h p 12 = nI lam ∧ lam ≤ 120 ∧ lam ≤ hN h (p + 5) ∧ D.2.2.2 ≤ hN h 116 ∧ ∀ i, i < D.2.2.2 → D.2.1 i < sz ∧ ∃ l l2, l < lam ∧ l2 < hN h (q + 15) ∧ l2 < 100000 ∧ (hB h 49 (D.2.1 i)).toInt32 = nI l ∧ hA h 116 i = nI l2 ∧ hA h (p + 5) l = hA h (q + 15) l2
theorem vof_ku (k c : Int32) : ((vof k c).toUInt64 >>> ((Int32.toInt64 32).toUInt64 &&& Int64.toUInt64 63)).toInt64.toInt32 = k := vof_kd k c
theorem zj : ¬ (1 : Int32) = (0 : Int32) ∧ ¬ (2 : Int32) = (0 : Int32) ∧ ¬ (2 : Int32) = (1 : Int32) ∧ ¬ (3 : Int32) = (0 : Int32) ∧ ¬ (3 : Int32) = (1 : Int32) ∧ ¬ (3 : Int32) = (2 : Int32) ∧ ¬ (4 : Int32) = (0 : Int32) ∧ ¬ (4 : Int32) = (1 : Int32) ∧ ¬ (4 : Int32) = (2 : Int32) ∧ ¬ (4 : Int32) = (3 : Int32) ∧ ¬ (5 : Int32) = (0 : Int32) ∧ ¬ (5 : Int32) = (1 : Int32) ∧ ¬ (5 : Int32) = (2 : Int32) ∧ ¬ (5 : Int32) = (3 : Int32) ∧ ¬ (5 : Int32) = (4 : Int32) ∧ ¬ (6 : Int32) = (0 : Int32) ∧ ¬ (6 : Int32) = (1 : Int32) ∧ ¬ (6 : Int32) = (2 : Int32) ∧ ¬ (6 : Int32) = (3 : Int32) ∧ ¬ (6 : Int32) = (4 : Int32) ∧ ¬ (6 : Int32) = (5 : Int32) ∧ ¬ (7 : Int32) = (0 : Int32) ∧ ¬ (7 : Int32) = (1 : Int32) ∧ ¬ (7 : Int32) = (2 : Int32) ∧ ¬ (7 : Int32) = (3 : Int32) ∧ ¬ (7 : Int32) = (4 : Int32) ∧ ¬ (7 : Int32) = (5 : Int32) ∧ ¬ (7 : Int32) = (6 : Int32) ∧ ¬ (8 : Int32) = (0 : Int32) ∧ ¬ (8 : Int32) = (1 : Int32) ∧ ¬ (8 : Int32) = (2 : Int32) ∧ ¬ (8 : Int32) = (3 : Int32) ∧ ¬ (8 : Int32) = (4 : Int32) ∧ ¬ (8 : Int32) = (5 : Int32) ∧ ¬ (8 : Int32) = (6 : Int32) ∧ ¬ (8 : Int32) = (7 : Int32) := ⟨by decide, by decide, by decide, by decide, by decide, by decide, by decide, by decide, by decide, by decide, by decide, by decide, by decide, by decide, by decide, by decide, by decide, by decide, by decide, by decide, by decide, by decide, by decide, by decide, by decide, by decide, by decide, by decide, by decide, by decide, by decide, by decide, by decide, by decide, by decide, by decide⟩
theorem nI_lit : nI 0 = 0 ∧ nI 1 = 1 ∧ nI 2 = 2 ∧ nI 3 = 3 ∧ nI 4 = 4 ∧ nI 5 = 5 := ⟨rfl, rfl, rfl, rfl, rfl, rfl⟩
section AT
variable {h : Hp} {Q : Option Value → Hp → Prop} {Mach : VD → Nat → Hp → Prop} {c : Int32}
/-- kinds 0 to 5 -/
theorem sp_tellX {k : Nat} (s : Sk h) (hv : hL h 0 9 = vof (nI k) c) (hk : k < 6) (hq : Q (some (.int (if k = 1 ∨ k = 5 then c else 0))) h) : aEv 1398 171 [.ref 0] h Q := by
  unfold aEv
  rcases (show k = 0 ∨ k = 1 ∨ k = 2 ∨ k = 3 ∨ k = 4 ∨ k = 5 by omega) with rfl | rfl | rfl | rfl | rfl | rfl <;>
  · simp only [lv_args, z_v, z_lg, z_h, z_u, z_u1, z_c, z_ct, z_sk, sbne, lst1_d, ldel, lst2_d, ldel2, z_sw, z_rok, zi, eq_self, List.map_cons, List.map_nil, List.append_nil, List.nil_append, List.cons_append, Int32.reduceLT, Int32.reduceLE, Int32.reduceAdd, Int32.reduceSub, Int32.reduceMul, Int32.reduceToInt, Int32.reduceToNatClampNeg, Int.reduceLT, Int.reduceLE, Int.reduceNeg, true_and, and_true, or_self, or_false, false_or, false_and, and_false, true_or, or_true, if_true, if_false, ne_eq, Classical.not_not, not_true_eq_false, not_false_eq_true, true_implies, false_implies, implies_true, Nat.reduceEqDiff, Nat.reduceAdd, Nat.reduceLeDiff, Nat.reduceSub, reduceCtorEq, reduceIte, zj, Nat.reduceLT, b171_0, b171_60, b171_86, skX s, hv, e155, e156, vof_ku, vof_lo, nI_lit]
    exact hq
theorem sp_tellM {q : Nat} (P : PgM q h) {k : Nat} (s : Sk h) (hk : k < 6) (hq : Q (some (.int (if k = 1 ∨ k = 5 then c else 0))) h) : aEv 1398 262 [.ref 59, .long (vof (nI k) c)] h Q := by
  rcases P with ⟨rfl, x6, x7⟩ | ⟨rfl, x6, x7⟩
  · rw [e262_59a _ _ s x6 x7]
    rcases (show k = 0 ∨ k = 1 ∨ k = 2 ∨ k = 3 ∨ k = 4 ∨ k = 5 by omega) with rfl | rfl | rfl | rfl | rfl | rfl <;>
    · simp only [lv_args, z_v, z_lg, z_h, z_u, z_u1, z_c, z_ct, z_sk, sbne, lst1_d, ldel, lst2_d, ldel2, z_sw, z_rok, zi, eq_self, List.map_cons, List.map_nil, List.append_nil, List.nil_append, List.cons_append, Int32.reduceLT, Int32.reduceLE, Int32.reduceAdd, Int32.reduceSub, Int32.reduceMul, Int32.reduceToInt, Int32.reduceToNatClampNeg, Int.reduceLT, Int.reduceLE, Int.reduceNeg, true_and, and_true, or_self, or_false, false_or, false_and, and_false, true_or, or_true, if_true, if_false, ne_eq, Classical.not_not, not_true_eq_false, not_false_eq_true, true_implies, false_implies, implies_true, Nat.reduceEqDiff, Nat.reduceAdd, Nat.reduceLeDiff, Nat.reduceSub, reduceCtorEq, reduceIte, zj, Nat.reduceLT, vof_kr, vof_lo, nI_lit]
      exact hq
  · rw [e262_59b _ _ s x6 x7]
    rcases (show k = 0 ∨ k = 1 ∨ k = 2 ∨ k = 3 ∨ k = 4 ∨ k = 5 by omega) with rfl | rfl | rfl | rfl | rfl | rfl <;>
    · simp only [lv_args, z_v, z_lg, z_h, z_u, z_u1, z_c, z_ct, z_sk, sbne, lst1_d, ldel, lst2_d, ldel2, z_sw, z_rok, zi, eq_self, List.map_cons, List.map_nil, List.append_nil, List.nil_append, List.cons_append, Int32.reduceLT, Int32.reduceLE, Int32.reduceAdd, Int32.reduceSub, Int32.reduceMul, Int32.reduceToInt, Int32.reduceToNatClampNeg, Int.reduceLT, Int.reduceLE, Int.reduceNeg, true_and, and_true, or_self, or_false, false_or, false_and, and_false, true_or, or_true, if_true, if_false, ne_eq, Classical.not_not, not_true_eq_false, not_false_eq_true, true_implies, false_implies, implies_true, Nat.reduceEqDiff, Nat.reduceAdd, Nat.reduceLeDiff, Nat.reduceSub, reduceCtorEq, reduceIte, zj, Nat.reduceLT, vof_kr, vof_lo, nI_lit]
      exact hq
theorem sp_tellX6 (s : Sk h) (hv : hL h 0 9 = vof 6 c) (hq : Q (some (.int 0)) h) : aEv 1398 171 [.ref 0] h Q := by
  unfold aEv
  simp only [lv_args, z_v, z_lg, z_h, z_u, z_u1, z_c, z_ct, z_sk, sbne, lst1_d, ldel, lst2_d, ldel2, z_sw, z_rok, zi, eq_self, List.map_cons, List.map_nil, List.append_nil, List.nil_append, List.cons_append, Int32.reduceLT, Int32.reduceLE, Int32.reduceAdd, Int32.reduceSub, Int32.reduceMul, Int32.reduceToInt, Int32.reduceToNatClampNeg, Int.reduceLT, Int.reduceLE, Int.reduceNeg, true_and, and_true, or_self, or_false, false_or, false_and, and_false, true_or, or_true, if_true, if_false, ne_eq, Classical.not_not, not_true_eq_false, not_false_eq_true, true_implies, false_implies, implies_true, Nat.reduceEqDiff, Nat.reduceAdd, Nat.reduceLeDiff, Nat.reduceSub, reduceCtorEq, reduceIte, zj, Nat.reduceLT, b171_0, b171_60, b171_86, skX s, hv, e155, e156, vof_ku, vof_lo]
  exact hq
theorem sp_tellM6 {q : Nat} (P : PgM q h) (s : Sk h) (hq : Q (some (.int 0)) h) : aEv 1398 262 [.ref 59, .long (vof 6 c)] h Q := by
  rcases P with ⟨rfl, x6, x7⟩ | ⟨rfl, x6, x7⟩
  · rw [e262_59a _ _ s x6 x7]
    simp only [lv_args, z_v, z_lg, z_h, z_u, z_u1, z_c, z_ct, z_sk, sbne, lst1_d, ldel, lst2_d, ldel2, z_sw, z_rok, zi, eq_self, List.map_cons, List.map_nil, List.append_nil, List.nil_append, List.cons_append, Int32.reduceLT, Int32.reduceLE, Int32.reduceAdd, Int32.reduceSub, Int32.reduceMul, Int32.reduceToInt, Int32.reduceToNatClampNeg, Int.reduceLT, Int.reduceLE, Int.reduceNeg, true_and, and_true, or_self, or_false, false_or, false_and, and_false, true_or, or_true, if_true, if_false, ne_eq, Classical.not_not, not_true_eq_false, not_false_eq_true, true_implies, false_implies, implies_true, Nat.reduceEqDiff, Nat.reduceAdd, Nat.reduceLeDiff, Nat.reduceSub, reduceCtorEq, reduceIte, zj, Nat.reduceLT, vof_kr, vof_lo]
    exact hq
  · rw [e262_59b _ _ s x6 x7]
    simp only [lv_args, z_v, z_lg, z_h, z_u, z_u1, z_c, z_ct, z_sk, sbne, lst1_d, ldel, lst2_d, ldel2, z_sw, z_rok, zi, eq_self, List.map_cons, List.map_nil, List.append_nil, List.nil_append, List.cons_append, Int32.reduceLT, Int32.reduceLE, Int32.reduceAdd, Int32.reduceSub, Int32.reduceMul, Int32.reduceToInt, Int32.reduceToNatClampNeg, Int.reduceLT, Int.reduceLE, Int.reduceNeg, true_and, and_true, or_self, or_false, false_or, false_and, and_false, true_or, or_true, if_true, if_false, ne_eq, Classical.not_not, not_true_eq_false, not_false_eq_true, true_implies, false_implies, implies_true, Nat.reduceEqDiff, Nat.reduceAdd, Nat.reduceLeDiff, Nat.reduceSub, reduceCtorEq, reduceIte, zj, Nat.reduceLT, vof_kr, vof_lo]
    exact hq
theorem sp_tellX8 (s : Sk h) {i : Nat} (hi : i < 20) (hv : hL h 0 9 = vof 8 (nI i)) (hq : Q (some (.int (if i = 19 then 0 else if i < 8 then 1 else 2))) h) : aEv 1398 171 [.ref 0] h Q := by
  unfold aEv
  simp only [lv_args, z_v, z_lg, z_h, z_u, z_u1, z_c, z_ct, z_sk, sbne, lst1_d, ldel, lst2_d, ldel2, z_sw, z_rok, zi, eq_self, List.map_cons, List.map_nil, List.append_nil, List.nil_append, List.cons_append, Int32.reduceLT, Int32.reduceLE, Int32.reduceAdd, Int32.reduceSub, Int32.reduceMul, Int32.reduceToInt, Int32.reduceToNatClampNeg, Int.reduceLT, Int.reduceLE, Int.reduceNeg, true_and, and_true, or_self, or_false, false_or, false_and, and_false, true_or, or_true, if_true, if_false, ne_eq, Classical.not_not, not_true_eq_false, not_false_eq_true, true_implies, false_implies, implies_true, Nat.reduceEqDiff, Nat.reduceAdd, Nat.reduceLeDiff, Nat.reduceSub, reduceCtorEq, reduceIte, zj, Nat.reduceLT, b171_0, b171_81, skX s, hv, e155, e156, vof_ku, vof_lo, e75]
  refine ⟨fun c1 => ⟨fun c2 => ?_, fun c2 => ?_⟩, fun c1 => ?_⟩
  · have n1 : ¬ i = 19 := fun e => c1 (by rw [e]; rfl)
    have n2 : ¬ i < 8 := by have := (nI_leI (a := 8) (b := i) (by omega) (by omega)).mp c2; omega
    rw [if_neg n1, if_neg n2] at hq
    exact hq
  · have n1 : ¬ i = 19 := fun e => c1 (by rw [e]; rfl)
    have n2 : i < 8 := Nat.lt_of_not_le fun z => c2 ((nI_leI (a := 8) (b := i) (by omega) (by omega)).mpr z)
    rw [if_neg n1, if_pos n2] at hq
    exact hq
  · have n1 : i = 19 := nI_inj (b := 19) (by omega) (by omega) c1
    rw [if_pos n1] at hq
    exact hq
theorem sp_tellM8 {q : Nat} (P : PgM q h) (s : Sk h) {i : Nat} (hi : i < 20) (hq : Q (some (.int (if i = 19 then 0 else if i < 8 then 1 else 2))) h) : aEv 1398 262 [.ref 59, .long (vof 8 (nI (i + 11)))] h Q := by
  have key : (¬ nI (i + 11) = 30 → (18 < nI (i + 11) → Q (some (.int 2)) h) ∧ (¬ 18 < nI (i + 11) → Q (some (.int 1)) h)) ∧ (nI (i + 11) = 30 → Q (some (.int 0)) h) := by
    refine ⟨fun c1 => ⟨fun c2 => ?_, fun c2 => ?_⟩, fun c1 => ?_⟩
    · have n1 : ¬ i = 19 := fun e => c1 (by rw [e]; rfl)
      have n2 : ¬ i < 8 := by have := (nI_ltI (a := 18) (b := i + 11) (by omega) (by omega)).mp c2; omega
      rw [if_neg n1, if_neg n2] at hq
      exact hq
    · have n1 : ¬ i = 19 := fun e => c1 (by rw [e]; rfl)
      have n2 : i < 8 := by
        have := Nat.le_of_not_lt fun z => c2 ((nI_ltI (a := 18) (b := i + 11) (by omega) (by omega)).mpr z)
        omega
      rw [if_neg n1, if_pos n2] at hq
      exact hq
    · have n1 := nI_inj (a := i + 11) (b := 30) (by omega) (by omega) c1
      rw [if_pos (by omega)] at hq
      exact hq
  rcases P with ⟨rfl, x6, x7⟩ | ⟨rfl, x6, x7⟩
  · rw [e262_59a _ _ s x6 x7]
    simp only [lv_args, z_v, z_lg, z_h, z_u, z_u1, z_c, z_ct, z_sk, sbne, lst1_d, ldel, lst2_d, ldel2, z_sw, z_rok, zi, eq_self, List.map_cons, List.map_nil, List.append_nil, List.nil_append, List.cons_append, Int32.reduceLT, Int32.reduceLE, Int32.reduceAdd, Int32.reduceSub, Int32.reduceMul, Int32.reduceToInt, Int32.reduceToNatClampNeg, Int.reduceLT, Int.reduceLE, Int.reduceNeg, true_and, and_true, or_self, or_false, false_or, false_and, and_false, true_or, or_true, if_true, if_false, ne_eq, Classical.not_not, not_true_eq_false, not_false_eq_true, true_implies, false_implies, implies_true, Nat.reduceEqDiff, Nat.reduceAdd, Nat.reduceLeDiff, Nat.reduceSub, reduceCtorEq, reduceIte, zj, Nat.reduceLT, vof_kr, vof_lo]
    exact key
  · rw [e262_59b _ _ s x6 x7]
    simp only [lv_args, z_v, z_lg, z_h, z_u, z_u1, z_c, z_ct, z_sk, sbne, lst1_d, ldel, lst2_d, ldel2, z_sw, z_rok, zi, eq_self, List.map_cons, List.map_nil, List.append_nil, List.nil_append, List.cons_append, Int32.reduceLT, Int32.reduceLE, Int32.reduceAdd, Int32.reduceSub, Int32.reduceMul, Int32.reduceToInt, Int32.reduceToNatClampNeg, Int.reduceLT, Int.reduceLE, Int.reduceNeg, true_and, and_true, or_self, or_false, false_or, false_and, and_false, true_or, or_true, if_true, if_false, ne_eq, Classical.not_not, not_true_eq_false, not_false_eq_true, true_implies, false_implies, implies_true, Nat.reduceEqDiff, Nat.reduceAdd, Nat.reduceLeDiff, Nat.reduceSub, reduceCtorEq, reduceIte, zj, Nat.reduceLT, vof_kr, vof_lo]
    exact key
theorem sp_lamX {d : Nat} (hd : 0 < d) (s : Sk h) {n sz l : Nat} (e1 : hI h 48 1 = nI sz) (hs : sz ≤ hN h 49) (hz : sz < 10000000) (hn : n < sz) (hl : (hB h 49 n).toInt32 = nI l) (hq : Q (some (.int (nI l))) h) : aEv d 38 [.ref 48, .int (nI n)] h Q := by
  have hs2 := nI_small (n := n) (by omega)
  rw [e38_48 _ _ s, e1, hs2.1, hs2.2, hl]
  have c1 : ¬ nI n < 0 := fun c => by
    have := (nI_ltI (a := n) (b := 0) (by omega) (by omega)).mp c
    omega
  have c2 : ¬ nI sz ≤ nI n := fun c => by
    have := (nI_leI (a := sz) (b := n) (by omega) (by omega)).mp c
    omega
  exact ⟨hd, fun c => absurd c c1, fun _ => ⟨fun c => absurd c c2, fun _ => ⟨⟨by omega, by omega⟩, hq⟩⟩⟩
theorem sp_wanX {d : Nat} (s : Sk h) {p : Nat} (P : PgX p h) {lam l : Nat} (e1 : hI h p 12 = nI lam) (hs : lam ≤ hN h (p + 5)) (hz : lam ≤ 120) (hn : l < lam) (hq : Q (some (.int (hA h (p + 5) l))) h) : aEv d 108 [.ref p, .int (nI l)] h Q := by
  have hs2 := nI_small (n := l) (by omega)
  have c1 : ¬ nI l < 0 := fun c => by
    have := (nI_ltI (a := l) (b := 0) (by omega) (by omega)).mp c
    omega
  have c2 : ¬ nI lam ≤ nI l := fun c => by
    have := (nI_leI (a := lam) (b := l) (by omega) (by omega)).mp c
    omega
  rcases P with ⟨rfl, x6, x7⟩ | ⟨rfl, x6, x7⟩
  · have hs' : lam ≤ hN h 24 := hs
    rw [e108_19 _ _ s, e1, hs2.1, hs2.2]
    exact ⟨fun c => absurd c c1, fun _ => ⟨fun c => absurd c c2, fun _ => ⟨⟨by omega, by omega⟩, hq⟩⟩⟩
  · have hs' : lam ≤ hN h 34 := hs
    rw [e108_29 _ _ s, e1, hs2.1, hs2.2]
    exact ⟨fun c => absurd c c1, fun _ => ⟨fun c => absurd c c2, fun _ => ⟨⟨by omega, by omega⟩, hq⟩⟩⟩
theorem sp_tellX7 (s : Sk h) {p : Nat} (P : PgX p h) {sz lam n l : Nat} (hv : hL h 0 9 = vof 7 (nI n)) (e1 : hI h 48 1 = nI sz) (hs : sz ≤ hN h 49) (hz : sz < 10000000) (hn : n < sz) (hl : (hB h 49 n).toInt32 = nI l) (e2 : hI h p 12 = nI lam) (hs2 : lam ≤ hN h (p + 5)) (hz2 : lam ≤ 120) (hn2 : l < lam) (hq : Q (some (.int (hA h (p + 5) l))) h) : aEv 1398 171 [.ref 0] h Q := by
  unfold aEv
  rcases P with ⟨rfl, x6, x7⟩ | ⟨rfl, x6, x7⟩ <;>
  · simp only [lv_args, z_v, z_lg, z_h, z_u, z_u1, z_c, z_ct, z_sk, sbne, lst1_d, ldel, lst2_d, ldel2, z_sw, z_rok, zi, eq_self, List.map_cons, List.map_nil, List.append_nil, List.nil_append, List.cons_append, Int32.reduceLT, Int32.reduceLE, Int32.reduceAdd, Int32.reduceSub, Int32.reduceMul, Int32.reduceToInt, Int32.reduceToNatClampNeg, Int.reduceLT, Int.reduceLE, Int.reduceNeg, true_and, and_true, or_self, or_false, false_or, false_and, and_false, true_or, or_true, if_true, if_false, ne_eq, Classical.not_not, not_true_eq_false, not_false_eq_true, true_implies, false_implies, implies_true, Nat.reduceEqDiff, Nat.reduceAdd, Nat.reduceLeDiff, Nat.reduceSub, reduceCtorEq, reduceIte, zj, Nat.reduceLT, b171_0, b171_62, skX s, srX s, hv, x6, e155, e156, vof_ku, vof_lo]
    refine sp_lamX (by decide) s e1 hs hz hn hl ?_
    simp only [lv_args, z_v, z_lg, z_h, z_u, z_u1, z_c, z_ct, z_sk, sbne, lst1_d, ldel, lst2_d, ldel2, z_sw, z_rok, zi, eq_self, List.map_cons, List.map_nil, List.append_nil, List.nil_append, List.cons_append, Int32.reduceLT, Int32.reduceLE, Int32.reduceAdd, Int32.reduceSub, Int32.reduceMul, Int32.reduceToInt, Int32.reduceToNatClampNeg, Int.reduceLT, Int.reduceLE, Int.reduceNeg, true_and, and_true, or_self, or_false, false_or, false_and, and_false, true_or, or_true, if_true, if_false, ne_eq, Classical.not_not, not_true_eq_false, not_false_eq_true, true_implies, false_implies, implies_true, Nat.reduceEqDiff, Nat.reduceAdd, Nat.reduceLeDiff, Nat.reduceSub, reduceCtorEq, reduceIte, zj, Nat.reduceLT, b171_62, skX s, srX s]
    refine sp_wanX s (by first | exact Or.inl ⟨rfl, x6, x7⟩ | exact Or.inr ⟨rfl, x6, x7⟩) e2 hs2 hz2 hn2 ?_
    simp only [lv_args, z_v, z_lg, z_h, z_u, z_u1, z_c, z_ct, z_sk, sbne, lst1_d, ldel, lst2_d, ldel2, z_sw, z_rok, zi, eq_self, List.map_cons, List.map_nil, List.append_nil, List.nil_append, List.cons_append, Int32.reduceLT, Int32.reduceLE, Int32.reduceAdd, Int32.reduceSub, Int32.reduceMul, Int32.reduceToInt, Int32.reduceToNatClampNeg, Int.reduceLT, Int.reduceLE, Int.reduceNeg, true_and, and_true, or_self, or_false, false_or, false_and, and_false, true_or, or_true, if_true, if_false, ne_eq, Classical.not_not, not_true_eq_false, not_false_eq_true, true_implies, false_implies, implies_true, Nat.reduceEqDiff, Nat.reduceAdd, Nat.reduceLeDiff, Nat.reduceSub, reduceCtorEq, reduceIte, zj, Nat.reduceLT, b171_62, skX s, srX s]
    exact hq
theorem sp_tellM7 {q : Nat} (P : PgM q h) (s : Sk h) {i l2 : Nat} (hi : i < 10000000) (h1 : i < hN h 116) (e : hA h 116 i = nI l2) (hl : l2 < 100000) (h2 : l2 < hN h (q + 15)) (hq : Q (some (.int (hA h (q + 15) l2))) h) : aEv 1398 262 [.ref 59, .long (vof 7 (nI i))] h Q := by
  have a1 := nI_small (n := i) (by omega)
  have a2 := nI_small (n := l2) (by omega)
  rcases P with ⟨rfl, x6, x7⟩ | ⟨rfl, x6, x7⟩
  · have h2' : l2 < hN h 81 := h2
    rw [e262_59a _ _ s x6 x7]
    simp only [lv_args, z_v, z_lg, z_h, z_u, z_u1, z_c, z_ct, z_sk, sbne, lst1_d, ldel, lst2_d, ldel2, z_sw, z_rok, zi, eq_self, List.map_cons, List.map_nil, List.append_nil, List.nil_append, List.cons_append, Int32.reduceLT, Int32.reduceLE, Int32.reduceAdd, Int32.reduceSub, Int32.reduceMul, Int32.reduceToInt, Int32.reduceToNatClampNeg, Int.reduceLT, Int.reduceLE, Int.reduceNeg, true_and, and_true, or_self, or_false, false_or, false_and, and_false, true_or, or_true, if_true, if_false, ne_eq, Classical.not_not, not_true_eq_false, not_false_eq_true, true_implies, false_implies, implies_true, Nat.reduceEqDiff, Nat.reduceAdd, Nat.reduceLeDiff, Nat.reduceSub, reduceCtorEq, reduceIte, zj, Nat.reduceLT, vof_kr, vof_lo, a1, e, a2]
    exact ⟨⟨by omega, by omega⟩, ⟨by omega, by omega⟩, hq⟩
  · have h2' : l2 < hN h 101 := h2
    rw [e262_59b _ _ s x6 x7]
    simp only [lv_args, z_v, z_lg, z_h, z_u, z_u1, z_c, z_ct, z_sk, sbne, lst1_d, ldel, lst2_d, ldel2, z_sw, z_rok, zi, eq_self, List.map_cons, List.map_nil, List.append_nil, List.nil_append, List.cons_append, Int32.reduceLT, Int32.reduceLE, Int32.reduceAdd, Int32.reduceSub, Int32.reduceMul, Int32.reduceToInt, Int32.reduceToNatClampNeg, Int.reduceLT, Int.reduceLE, Int.reduceNeg, true_and, and_true, or_self, or_false, false_or, false_and, and_false, true_or, or_true, if_true, if_false, ne_eq, Classical.not_not, not_true_eq_false, not_false_eq_true, true_implies, false_implies, implies_true, Nat.reduceEqDiff, Nat.reduceAdd, Nat.reduceLeDiff, Nat.reduceSub, reduceCtorEq, reduceIte, zj, Nat.reduceLT, vof_kr, vof_lo, a1, e, a2]
    exact ⟨⟨by omega, by omega⟩, ⟨by omega, by omega⟩, hq⟩
theorem vr_tell {D : VD} {p q : Nat} (s : Sk h) (J : VJ D) (P : PgX p h) (P' : PgM q h) (W : Pw D p q h) {w : Int64} (r : VR D (hL h 0 9) w) : ∃ N, (∀ Q : Option Value → Hp → Prop, Q (some (.int N)) h → aEv 1398 171 [.ref 0] h Q) ∧ (∀ Q : Option Value → Hp → Prop, Q (some (.int N)) h → aEv 1398 262 [.ref 59, .long w] h Q) := by
  rcases r with ⟨k, c, k1, hv, rfl, k2⟩ | ⟨i, i1, hv, rfl⟩ | ⟨i, i1, hv, rfl⟩ | ⟨i, i1, hv, rfl⟩
  · exact ⟨_, fun Q hq => sp_tellX s hv k1 hq, fun Q hq => sp_tellM P' s k1 hq⟩
  · exact ⟨_, fun Q hq => sp_tellX6 s hv hq, fun Q hq => sp_tellM6 P' s hq⟩
  · obtain ⟨sz, lam, w1, w2, w3, w4, w5, w6, w7, w8⟩ := W
    obtain ⟨u1, l, l2, u2, u3, u4, u5, u6, u7⟩ := w8 i i1
    refine ⟨hA h (p + 5) l, fun Q hq => sp_tellX7 s P hv w1 w2 w3 u1 u5 w4 w6 w5 u2 hq, fun Q hq => ?_⟩
    have := J.2.2.2.2
    exact sp_tellM7 P' s (by omega) (by omega) u6 u4 u3 (u7 ▸ hq)
  · exact ⟨_, fun Q hq => sp_tellX8 s i1 hv hq, fun Q hq => sp_tellM8 P' s i1 hq⟩
theorem sp_atX (s : Sk h) {a : Int32} (q0 : a = 0 → Q (some (.int (vkd (hL h 0 9)))) h) (q1 : a = 1 → aEv 1398 171 [.ref 0] h (fun r h1 => h1 = h ∧ ∃ N, r = some (.int N) ∧ Q (some (.int N)) h)) (q2 : ¬ a = 0 → ¬ a = 1 → Q (some (.int (-1))) h) : aEv 1399 159 [.ref 0, .int a] h Q := by
  unfold aEv
  simp only [lv_args, z_v, z_lg, z_h, z_u, z_u1, z_c, z_ct, z_sk, sbne, lst1_d, ldel, lst2_d, ldel2, z_sw, z_rok, zi, eq_self, List.map_cons, List.map_nil, List.append_nil, List.nil_append, List.cons_append, Int32.reduceLT, Int32.reduceLE, Int32.reduceAdd, Int32.reduceSub, Int32.reduceMul, Int32.reduceToInt, Int32.reduceToNatClampNeg, Int.reduceLT, Int.reduceLE, Int.reduceNeg, true_and, and_true, or_self, or_false, false_or, false_and, and_false, true_or, or_true, if_true, if_false, ne_eq, Classical.not_not, not_true_eq_false, not_false_eq_true, true_implies, false_implies, implies_true, Nat.reduceEqDiff, Nat.reduceAdd, Nat.reduceLeDiff, Nat.reduceSub, reduceCtorEq, reduceIte, zj, Nat.reduceLT, b159_0, b159_28, b159_36, b159_41, skX s, e156]
  refine ⟨q0, fun c0 => ⟨fun c1 => ?_, q2 c0⟩⟩
  refine aEv_mono (q1 c1) ?_
  intro r h1 ⟨e, v, er, hq⟩
  subst e er
  simp only [lv_args, z_v, z_lg, z_h, z_u, z_u1, z_c, z_ct, z_sk, sbne, lst1_d, ldel, lst2_d, ldel2, z_sw, z_rok, zi, eq_self, List.map_cons, List.map_nil, List.append_nil, List.nil_append, List.cons_append, Int32.reduceLT, Int32.reduceLE, Int32.reduceAdd, Int32.reduceSub, Int32.reduceMul, Int32.reduceToInt, Int32.reduceToNatClampNeg, Int.reduceLT, Int.reduceLE, Int.reduceNeg, true_and, and_true, or_self, or_false, false_or, false_and, and_false, true_or, or_true, if_true, if_false, ne_eq, Classical.not_not, not_true_eq_false, not_false_eq_true, true_implies, false_implies, implies_true, Nat.reduceEqDiff, Nat.reduceAdd, Nat.reduceLeDiff, Nat.reduceSub, reduceCtorEq, reduceIte, zj, Nat.reduceLT, b159_36, skX s]
  exact hq
theorem sp_atM (s : Sk h) {a : Int32} (q0 : a = 0 → Q (some (.int (hL h 59 63 >>> ((32 : Int32).toInt64 &&& 63)).toInt32)) h) (q1 : a = 1 → aEv 1398 262 [.ref 59, .long (hL h 59 63)] h (fun r h1 => h1 = h ∧ ∃ N, r = some (.int N) ∧ Q (some (.int N)) h)) (q2 : ¬ a = 0 → ¬ a = 1 → Q (some (.int (-1))) h) : aEv 1399 184 [.ref 59, .int a] h Q := by
  unfold aEv
  simp only [lv_args, z_v, z_lg, z_h, z_u, z_u1, z_c, z_ct, z_sk, sbne, lst1_d, ldel, lst2_d, ldel2, z_sw, z_rok, zi, eq_self, List.map_cons, List.map_nil, List.append_nil, List.nil_append, List.cons_append, Int32.reduceLT, Int32.reduceLE, Int32.reduceAdd, Int32.reduceSub, Int32.reduceMul, Int32.reduceToInt, Int32.reduceToNatClampNeg, Int.reduceLT, Int.reduceLE, Int.reduceNeg, true_and, and_true, or_self, or_false, false_or, false_and, and_false, true_or, or_true, if_true, if_false, ne_eq, Classical.not_not, not_true_eq_false, not_false_eq_true, true_implies, false_implies, implies_true, Nat.reduceEqDiff, Nat.reduceAdd, Nat.reduceLeDiff, Nat.reduceSub, reduceCtorEq, reduceIte, zj, Nat.reduceLT, b184_0, b184_4, b184_14, b184_19, b184_30, b184_31, skM s, e227]
  refine ⟨fun c0 => ⟨q2 c0, fun c1 => ?_⟩, q0⟩
  refine aEv_mono (q1 c1) ?_
  intro r h1 ⟨e, v, er, hq⟩
  subst e er
  simp only [lv_args, z_v, z_lg, z_h, z_u, z_u1, z_c, z_ct, z_sk, sbne, lst1_d, ldel, lst2_d, ldel2, z_sw, z_rok, zi, eq_self, List.map_cons, List.map_nil, List.append_nil, List.nil_append, List.cons_append, Int32.reduceLT, Int32.reduceLE, Int32.reduceAdd, Int32.reduceSub, Int32.reduceMul, Int32.reduceToInt, Int32.reduceToNatClampNeg, Int.reduceLT, Int.reduceLE, Int.reduceNeg, true_and, and_true, or_self, or_false, false_or, false_and, and_false, true_or, or_true, if_true, if_false, ne_eq, Classical.not_not, not_true_eq_false, not_false_eq_true, true_implies, false_implies, implies_true, Nat.reduceEqDiff, Nat.reduceAdd, Nat.reduceLeDiff, Nat.reduceSub, reduceCtorEq, reduceIte, zj, Nat.reduceLT, b184_19, b184_31, skM s]
  exact hq
theorem vr_kind {D : VD} {v w : Int64} (r : VR D v w) : vkd v = (w >>> ((32 : Int32).toInt64 &&& 63)).toInt32 := by
  rcases r with ⟨k, c, k1, rfl, rfl, k2⟩ | ⟨i, i1, rfl, rfl⟩ | ⟨i, i1, rfl, rfl⟩ | ⟨i, i1, rfl, rfl⟩ <;> rw [vof_kd, vof_kr]
theorem op_at (hM : CoM Mach) (hS : ∀ D k h, Mach D k h → ∃ p q, PgX p h ∧ PgM q h ∧ Pw D p q h) : OpS (InvC (CoreM Mach)) 159 184 1 := by
  intro k h As hk hi hl hv
  obtain ⟨z, rfl⟩ := as_1 hl hv
  have up := inv_up (coc_of hM) hi
  obtain ⟨s, i2, i3, i4, i5, i6, D, J, ⟨p1, p2, p3, p4⟩, m⟩ := hi
  obtain ⟨p, q, g1, g2, g3⟩ := hS D k h m
  obtain ⟨N, n1, n2⟩ := vr_tell s J g1 g2 g3 p1
  refine sp_atX s (fun c => ⟨_, rfl, ?_⟩) (fun c => n1 _ ⟨rfl, N, rfl, _, rfl, ?_⟩) (fun c0 c1 => ⟨_, rfl, ?_⟩)
  · refine sp_atM s (fun _ => ⟨by rw [vr_kind p1], up⟩) (fun c1 => absurd (c.symm.trans c1) (by decide)) (fun c1 => absurd c c1)
  · refine sp_atM s (fun c1 => absurd (c.symm.trans c1) (by decide)) (fun _ => n2 _ ⟨rfl, N, rfl, rfl, up⟩) (fun _ c1 => absurd c c1)
  · exact sp_atM s (fun c => absurd c c0) (fun c => absurd c c1) (fun _ _ => ⟨rfl, up⟩)
end AT
