/-! BEGIN: the reference's machine, put together -/
def B5 (G : PG) (qv : Nat → Int64) (pa : List (Int64 × Int64)) (h h5 : Hp) : Prop :=
  (hK h5 = hK h ∧ hR h5 = hR h ∧ hN h5 = hN h ∧ hn h5 = hn h ∧ hu h5 = hu h) ∧ (∀ a, a ≠ 59 → hI h5 a = hI h a) ∧ (hI h5 59 1 = hI h 59 1 ∧ hI h5 59 2 = hI h 59 2 ∧ hI h5 59 3 = hI h 59 3 ∧ hI h5 59 19 = hI h 59 19 ∧ hI h5 59 61 = hI h 59 61) ∧
  (hI h5 59 31 = nI pa.length ∧ hI h5 59 37 = 0 ∧ hI h5 59 38 = 0 ∧ hI h5 59 39 = 0 ∧ hI h5 59 44 = 0 ∧ hI h5 59 45 = 0 ∧ hI h5 59 46 = -1 ∧ hI h5 59 50 = 0 ∧ hI h5 59 52 = 0 ∧ hI h5 59 55 = 0 ∧ hI h5 59 57 = 0 ∧ hI h5 59 58 = 0 ∧ hI h5 59 59 = 0 ∧ hI h5 59 60 = -1 ∧ hI h5 59 69 = -1) ∧ (hL h5 59 62 = 0 ∧ hL h5 59 63 = 0 ∧ hL h5 59 64 = 0) ∧ (∀ a, a ≠ 115 → a ≠ 120 → hA h5 a = hA h a) ∧
  (∃ fl, Fch (hA h5 120) (hI h5 59 42) fl ∧ fl.Nodup ∧ ∀ x, x ∈ fl → x < hN h 119) ∧ (∀ (i : Nat) (u v : Int64), pa[i]? = some (u, v) → hB h5 112 i = u ∧ hB h5 113 i = v) ∧ (∀ n, n < pNn G → hB h5 114 n = qv n) ∧ (∀ g, g < pDf G → hB h5 126 g = vof 9 0) ∧ ∀ j, j < 4 → hB h5 129 j = 0
section BGP
variable {h h' : Hp} {Q : Option Value → Hp → Prop} {d : Nat} {G : PG} {q : Nat} {qv : Nat → Int64}
theorem gl_loop {N : Nat} (s : Sk h) (r17 : hR h 59 17 = some q) (kq : hK h q = 11) (e4 : hI h q 4 = nI N) (n126 : hN h 126 = 3000) (hN0 : N ≤ 100) (hq : ∀ f, (∀ n, n < N → f n = vof 9 0) → aWP d 186 76 [(1, .int (nI N)), (0, .ref 59)] [] (pB h 126 f) Q) : ∀ (m j : Nat) (f : Nat → Int64), j + m = N → (∀ n, n < j → f n = vof 9 0) → aWP d 186 50 [(1, .int (nI j)), (0, .ref 59)] [] (pB h 126 f) Q := by
  intro m
  induction m with
  | zero =>
    intro j f hj hf
    have hj : j = N := by omega
    subst hj
    simp only [lv_args, z_v, z_lg, z_h, z_u, z_u1, z_c, z_ct, z_sk, sbne, lst1_d, ldel, lst2_d, ldel2, z_sw, z_rok, zi, eq_self, List.map_cons, List.map_nil, List.append_nil, List.nil_append, List.cons_append, Int32.reduceLT, Int32.reduceLE, Int32.reduceAdd, Int32.reduceSub, Int32.reduceMul, Int32.reduceToInt, Int32.reduceToNatClampNeg, Int.reduceLT, Int.reduceLE, Int.reduceNeg, true_and, and_true, or_self, or_false, false_or, false_and, and_false, true_or, or_true, if_true, if_false, ne_eq, Classical.not_not, not_true_eq_false, not_false_eq_true, true_implies, false_implies, implies_true, Nat.reduceEqDiff, Nat.reduceAdd, Nat.reduceLeDiff, Nat.reduceSub, reduceCtorEq, reduceIte, b186_50, skM s, r17, kq, e4]
    simp (disch := omega) only [nI_leN]
    exact ⟨fun _ => hq f hf, fun c => absurd (Nat.le_refl _) c⟩
  | succ m ih =>
    intro j f hj hf
    have ef : (38654705664 : Int64) = vof 9 0 := by decide
    have next := ih (j + 1) (vp_updL f j (vof 9 0)) (by omega) (fun n hn => by
      by_cases c : n = j
      · exact if_pos c
      · exact (if_neg c).trans (hf n (by omega)))
    rw [← pB_pB h 126 f (vp_updL f j (vof 9 0))] at next
    simp only [lv_args, z_v, z_lg, z_h, z_u, z_u1, z_c, z_ct, z_sk, sbne, lst1_d, ldel, lst2_d, ldel2, z_sw, z_rok, zi, eq_self, List.map_cons, List.map_nil, List.append_nil, List.nil_append, List.cons_append, Int32.reduceLT, Int32.reduceLE, Int32.reduceAdd, Int32.reduceSub, Int32.reduceMul, Int32.reduceToInt, Int32.reduceToNatClampNeg, Int.reduceLT, Int.reduceLE, Int.reduceNeg, true_and, and_true, or_self, or_false, false_or, false_and, and_false, true_or, or_true, if_true, if_false, ne_eq, Classical.not_not, not_true_eq_false, not_false_eq_true, true_implies, false_implies, implies_true, Nat.reduceEqDiff, Nat.reduceAdd, Nat.reduceLeDiff, Nat.reduceSub, reduceCtorEq, reduceIte, b186_50, skM s, r17, kq, e4]
    simp (disch := omega) only [nI_leN]
    refine ⟨fun c => absurd c (by omega), fun _ => ?_⟩
    simp only [lv_args, z_v, z_lg, z_h, z_u, z_u1, z_c, z_ct, z_sk, sbne, lst1_d, ldel, lst2_d, ldel2, z_sw, z_rok, zi, eq_self, List.map_cons, List.map_nil, List.append_nil, List.nil_append, List.cons_append, Int32.reduceLT, Int32.reduceLE, Int32.reduceAdd, Int32.reduceSub, Int32.reduceMul, Int32.reduceToInt, Int32.reduceToNatClampNeg, Int.reduceLT, Int.reduceLE, Int.reduceNeg, true_and, and_true, or_self, or_false, false_or, false_and, and_false, true_or, or_true, if_true, if_false, ne_eq, Classical.not_not, not_true_eq_false, not_false_eq_true, true_implies, false_implies, implies_true, Nat.reduceEqDiff, Nat.reduceAdd, Nat.reduceLeDiff, Nat.reduceSub, reduceCtorEq, reduceIte, b186_61, skM s, srM s, n126, ef]
    simp (disch := omega) only [nI_ti, nI_cl, le0N, ltNN, true_and]
    refine ⟨by omega, ?_⟩
    try simp only [lv_args, z_v, z_lg, z_h, z_u, z_u1, z_c, z_ct, z_sk, sbne, lst1_d, ldel, lst2_d, ldel2, z_sw, z_rok, zi, eq_self, List.map_cons, List.map_nil, List.append_nil, List.nil_append, List.cons_append, Int32.reduceLT, Int32.reduceLE, Int32.reduceAdd, Int32.reduceSub, Int32.reduceMul, Int32.reduceToInt, Int32.reduceToNatClampNeg, Int.reduceLT, Int.reduceLE, Int.reduceNeg, true_and, and_true, or_self, or_false, false_or, false_and, and_false, true_or, or_true, if_true, if_false, ne_eq, Classical.not_not, not_true_eq_false, not_false_eq_true, true_implies, false_implies, implies_true, Nat.reduceEqDiff, Nat.reduceAdd, Nat.reduceLeDiff, Nat.reduceSub, reduceCtorEq, reduceIte, b186_61, nI_1]
    exact next
theorem pl_loop (s : Sk h) (n129 : hN h 129 = 4) (hq : ∀ f, (∀ n, n < 4 → f n = 0) → aWP d 186 141 [(1, .int (nI 4)), (0, .ref 59)] [] (pB h 129 f) Q) : ∀ (m j : Nat) (f : Nat → Int64), j + m = 4 → (∀ n, n < j → f n = 0) → aWP d 186 123 [(1, .int (nI j)), (0, .ref 59)] [] (pB h 129 f) Q := by
  intro m
  have z4 : (4 : Int32) = nI 4 := rfl
  induction m with
  | zero =>
    intro j f hj hf
    have hj : j = 4 := by omega
    subst hj
    simp only [lv_args, z_v, z_lg, z_h, z_u, z_u1, z_c, z_ct, z_sk, sbne, lst1_d, ldel, lst2_d, ldel2, z_sw, z_rok, zi, eq_self, List.map_cons, List.map_nil, List.append_nil, List.nil_append, List.cons_append, Int32.reduceLT, Int32.reduceLE, Int32.reduceAdd, Int32.reduceSub, Int32.reduceMul, Int32.reduceToInt, Int32.reduceToNatClampNeg, Int.reduceLT, Int.reduceLE, Int.reduceNeg, true_and, and_true, or_self, or_false, false_or, false_and, and_false, true_or, or_true, if_true, if_false, ne_eq, Classical.not_not, not_true_eq_false, not_false_eq_true, true_implies, false_implies, implies_true, Nat.reduceEqDiff, Nat.reduceAdd, Nat.reduceLeDiff, Nat.reduceSub, reduceCtorEq, reduceIte, b186_123, z4]
    simp (disch := omega) only [nI_leN]
    exact ⟨fun _ => hq f hf, fun c => absurd (Nat.le_refl _) c⟩
  | succ m ih =>
    intro j f hj hf
    have next := ih (j + 1) (vp_updL f j 0) (by omega) (fun n hn => by
      by_cases c : n = j
      · exact if_pos c
      · exact (if_neg c).trans (hf n (by omega)))
    rw [← pB_pB h 129 f (vp_updL f j 0)] at next
    simp only [lv_args, z_v, z_lg, z_h, z_u, z_u1, z_c, z_ct, z_sk, sbne, lst1_d, ldel, lst2_d, ldel2, z_sw, z_rok, zi, eq_self, List.map_cons, List.map_nil, List.append_nil, List.nil_append, List.cons_append, Int32.reduceLT, Int32.reduceLE, Int32.reduceAdd, Int32.reduceSub, Int32.reduceMul, Int32.reduceToInt, Int32.reduceToNatClampNeg, Int.reduceLT, Int.reduceLE, Int.reduceNeg, true_and, and_true, or_self, or_false, false_or, false_and, and_false, true_or, or_true, if_true, if_false, ne_eq, Classical.not_not, not_true_eq_false, not_false_eq_true, true_implies, false_implies, implies_true, Nat.reduceEqDiff, Nat.reduceAdd, Nat.reduceLeDiff, Nat.reduceSub, reduceCtorEq, reduceIte, b186_123, z4]
    simp (disch := omega) only [nI_leN]
    refine ⟨fun c => absurd c (by omega), fun _ => ?_⟩
    simp only [lv_args, z_v, z_lg, z_h, z_u, z_u1, z_c, z_ct, z_sk, sbne, lst1_d, ldel, lst2_d, ldel2, z_sw, z_rok, zi, eq_self, List.map_cons, List.map_nil, List.append_nil, List.nil_append, List.cons_append, Int32.reduceLT, Int32.reduceLE, Int32.reduceAdd, Int32.reduceSub, Int32.reduceMul, Int32.reduceToInt, Int32.reduceToNatClampNeg, Int.reduceLT, Int.reduceLE, Int.reduceNeg, true_and, and_true, or_self, or_false, false_or, false_and, and_false, true_or, or_true, if_true, if_false, ne_eq, Classical.not_not, not_true_eq_false, not_false_eq_true, true_implies, false_implies, implies_true, Nat.reduceEqDiff, Nat.reduceAdd, Nat.reduceLeDiff, Nat.reduceSub, reduceCtorEq, reduceIte, b186_128, skM s, srM s, n129]
    simp (disch := omega) only [nI_ti, nI_cl, le0N, ltNN, true_and]
    refine ⟨by omega, ?_⟩
    try simp only [lv_args, z_v, z_lg, z_h, z_u, z_u1, z_c, z_ct, z_sk, sbne, lst1_d, ldel, lst2_d, ldel2, z_sw, z_rok, zi, eq_self, List.map_cons, List.map_nil, List.append_nil, List.nil_append, List.cons_append, Int32.reduceLT, Int32.reduceLE, Int32.reduceAdd, Int32.reduceSub, Int32.reduceMul, Int32.reduceToInt, Int32.reduceToNatClampNeg, Int.reduceLT, Int.reduceLE, Int.reduceNeg, true_and, and_true, or_self, or_false, false_or, false_and, and_false, true_or, or_true, if_true, if_false, ne_eq, Classical.not_not, not_true_eq_false, not_false_eq_true, true_implies, false_implies, implies_true, Nat.reduceEqDiff, Nat.reduceAdd, Nat.reduceLeDiff, Nat.reduceSub, reduceCtorEq, reduceIte, b186_128, nI_1]
    exact next
/-- slots and the first entry -/
theorem bg_end {h5 : Hp} {pa : List (Int64 × Int64)} {bu : Nat} {x1 : Int32} (B : B5 G qv pa h h5) (s : Sk h) (vy : Vy h) (rm : Rm h) (rq : Rq h) (P : PM G q h) (r17 : hR h 59 17 = some q) (hW : WG G) (r18 : hR h 59 18 = some (152 - q)) (hpa : pa.length ≤ 6200) (hbu : bu ≤ 20000) (ebu : hI h 59 61 = nI bu) (hd : 20 < d)
    (hq : ∀ h', SM0 G q qv h' → RZn (y0 G pa bu) h' → MXc none 0 h' → MXp [] [] h' → (hI h' 59 69 = -1 ∧ hI h' 59 60 = -1 ∧ hL h' 59 63 = 0) → (∀ j, j < 4 → hB h' 129 j = 0) → hR h' = hR h → (hI h' 59 1 = hI h 59 1 ∧ hI h' 59 2 = hI h 59 2 ∧ hI h' 59 3 = hI h 59 3 ∧ hI h' 59 19 = hI h 59 19) → hA h' 60 = hA h 60 → Q none h') : aWP d 186 141 [(1, .int x1), (0, .ref 59)] [] h5 Q := by
  obtain ⟨⟨c1, c2, c3, c4, c5⟩, c6, ⟨c7, c8, c9, c10, c11⟩, ⟨i31, i37, i38, i39, i44, i45, i46, i50, i52, i55, i57, i58, i59, i60, i69⟩, ⟨l62, l63, l64⟩, cA, ⟨fl, F1, F2, F3⟩, cP, c114, c126, c129⟩ := B
  have h0 : 0 < d := by omega
  have hq66 : q = 66 ∨ q = 86 := P.1
  have s5 : Sk h5 := (sk_same c1 c2 c4 : Sk _ = Sk h) ▸ s
  have rm5 : Rm h5 := rm_same c3 c4 c5 rm
  have P5 : PM G q h5 := pm_same (c6 q (by omega)) (fun j hj => ⟨cA _ (by omega) (by omega), by rw [c3]⟩) P
  have pn := P.2.2.1
  have S5 : SM G q (qe qv D0 h5) h5 := ⟨s5, by unfold Vy; rw [c2]; exact vy, rm5, P5, by rw [c2]; exact r17, rm5.1.2 (114, 6200) (by decide), fun n hn => by rw [qe_lo (by omega)]; exact c114 n hn, kq_qe (by rw [c2]; exact r18)⟩
  obtain ⟨⟨t123, t124⟩, ⟨t120, t119⟩, t121, _⟩ := rq
  have M5 : MXb [] 0 none [] [] h5 := by
    refine mxb_0.mpr ⟨⟨⟨i44, Nat.zero_le _, i45, by decide, i46, fun i e => (by cases e), by rw [c3]; exact t121⟩, ⟨i37, by decide, rm5.1.2 (116, 40001) (by decide), rm5.1.2 (117, 40001) (by decide), rm5.1.2 (118, 40001) (by decide), i38, by decide, fun i L ks e => (by simp at e)⟩, by rw [c3]; exact ⟨t120, t119⟩⟩, fun x => x, fl, ⟨fun j c e => (by simp at e), fun j b e => (by simp [kfl] at e), fun b hb => ?_, fun b b' hb _ _ => ?_, F1, F2, fun x hx => ⟨by rw [c3]; exact F3 x hx, fun b hb => ?_⟩⟩⟩
    · simp [kfl] at hb
    · simp [kfl] at hb
    · simp [kfl] at hb
  have hsn : pSn G 0 ≤ 250 := (hW.2.2.2.2.2.1 0 (Nat.zero_le _)).2.1
  obtain ⟨⟨k0, _⟩, _⟩ := prf s5 P5.1
  have r175 : hR h5 59 17 = some q := by rw [c2]; exact r17
  have e26 : hI h5 q 26 = nI (pSn G 0) := P5.2.2.2.2.2.2.2.2.2.2.2.1
  simp only [lv_args, z_v, z_lg, z_h, z_u, z_u1, z_c, z_ct, z_sk, sbne, lst1_d, ldel, lst2_d, ldel2, z_sw, z_rok, zi, eq_self, List.map_cons, List.map_nil, List.append_nil, List.nil_append, List.cons_append, Int32.reduceLT, Int32.reduceLE, Int32.reduceAdd, Int32.reduceSub, Int32.reduceMul, Int32.reduceToInt, Int32.reduceToNatClampNeg, Int.reduceLT, Int.reduceLE, Int.reduceNeg, true_and, and_true, or_self, or_false, false_or, false_and, and_false, true_or, or_true, if_true, if_false, ne_eq, Classical.not_not, not_true_eq_false, not_false_eq_true, true_implies, false_implies, implies_true, Nat.reduceEqDiff, Nat.reduceAdd, Nat.reduceLeDiff, Nat.reduceSub, reduceCtorEq, reduceIte, b186_141, skM s5, h0, r175, k0, e26]
  refine sp_slots S5 M5 (by omega) (by show 0 + pSn G 0 ≤ 252000; omega) (fun h6 F S6 M6 => ?_)
  have s6 := S6.1
  have P6 := S6.2.2.2.1
  obtain ⟨⟨k06, _⟩, _⟩ := prf s6 P6.1
  have r176 := S6.2.2.2.2.1
  have e3 : hI h6 q 3 = pF1 G := P6.2.2.2.2.2.2.2.2.2.2.2.2.2.1
  obtain ⟨f1, f2, f3, f4, f5, f6⟩ := F
  have fI : ∀ i, i ≠ 44 → hI h6 59 i = hI h5 59 i := fun i hi => f5 59 i (fun c => hi c.2)
  have rm6 := S6.2.2.1
  have n122 := (rm6.2.2 122 (by decide))
  have y122 : cpR 122 = 90000 := rfl
  have n125 := (rm6.2.2 125 (by decide))
  have y125 : cpR 125 = 620000 := rfl
  have q122 := f4 122 (by decide) (by decide)
  have q123 := f4 123 (by decide) (by decide)
  have q124 := f4 124 (by decide) (by decide)
  have q112 := f4 112 (by decide) (by decide)
  have q113 := f4 113 (by decide) (by decide)
  have q126 := f4 126 (by decide) (by decide)
  have q114 := f4 114 (by decide) (by decide)
  have q129 := f4 129 (by decide) (by decide)
  have q60 := f4 60 (by decide) (by decide)
  have m123 : hN h6 123 = hN h6 122 := by rw [q123.2.2, q122.2.2, c3]; exact t123
  have m124 : hN h6 124 = hN h6 122 := by rw [q124.2.2, q122.2.2, c3]; exact t124
  have t50 : hI h6 59 50 = nI 0 := (fI 50 (by decide)).trans i50
  have T6 : MXt [] h6 := ⟨t50, Nat.zero_le _, ⟨m123, m124⟩, by omega, fun j e hj => by simp at hj⟩
  have hlt : 0 < hN h6 122 := by omega
  have T7 := mxt_push (k := 9) (n := pF1 G) (m := 0) T6 hlt (by decide)
  have n0 : ¬ nI 0 = nI (hN h6 122) := fun c => by
    have := nI_inj (a := 0) (b := hN h6 122) (by omega) (by omega) c
    omega
  simp only [lv_args, z_v, z_lg, z_h, z_u, z_u1, z_c, z_ct, z_sk, sbne, lst1_d, ldel, lst2_d, ldel2, z_sw, z_rok, zi, eq_self, List.map_cons, List.map_nil, List.append_nil, List.nil_append, List.cons_append, Int32.reduceLT, Int32.reduceLE, Int32.reduceAdd, Int32.reduceSub, Int32.reduceMul, Int32.reduceToInt, Int32.reduceToNatClampNeg, Int.reduceLT, Int.reduceLE, Int.reduceNeg, true_and, and_true, or_self, or_false, false_or, false_and, and_false, true_or, or_true, if_true, if_false, ne_eq, Classical.not_not, not_true_eq_false, not_false_eq_true, true_implies, false_implies, implies_true, Nat.reduceEqDiff, Nat.reduceAdd, Nat.reduceLeDiff, Nat.reduceSub, reduceCtorEq, reduceIte, b186_141, skM s5, skM s6, h0, r176, k06, e3, Nat.reduceLT]
  unfold aEv
  have z1 : nI 0 + 1 = nI 1 := rfl
  simp only [lv_args, z_v, z_lg, z_h, z_u, z_u1, z_c, z_ct, z_sk, sbne, lst1_d, ldel, lst2_d, ldel2, z_sw, z_rok, zi, eq_self, List.map_cons, List.map_nil, List.append_nil, List.nil_append, List.cons_append, Int32.reduceLT, Int32.reduceLE, Int32.reduceAdd, Int32.reduceSub, Int32.reduceMul, Int32.reduceToInt, Int32.reduceToNatClampNeg, Int.reduceLT, Int.reduceLE, Int.reduceNeg, true_and, and_true, or_self, or_false, false_or, false_and, and_false, true_or, or_true, if_true, if_false, ne_eq, Classical.not_not, not_true_eq_false, not_false_eq_true, true_implies, false_implies, implies_true, Nat.reduceEqDiff, Nat.reduceAdd, Nat.reduceLeDiff, Nat.reduceSub, reduceCtorEq, reduceIte, b263_0, skM s6, srM s6, t50, Nat.reduceLeDiff, n0]
  simp only [lv_args, z_v, z_lg, z_h, z_u, z_u1, z_c, z_ct, z_sk, sbne, lst1_d, ldel, lst2_d, ldel2, z_sw, z_rok, zi, eq_self, List.map_cons, List.map_nil, List.append_nil, List.nil_append, List.cons_append, Int32.reduceLT, Int32.reduceLE, Int32.reduceAdd, Int32.reduceSub, Int32.reduceMul, Int32.reduceToInt, Int32.reduceToNatClampNeg, Int.reduceLT, Int.reduceLE, Int.reduceNeg, true_and, and_true, or_self, or_false, false_or, false_and, and_false, true_or, or_true, if_true, if_false, ne_eq, Classical.not_not, not_true_eq_false, not_false_eq_true, true_implies, false_implies, implies_true, Nat.reduceEqDiff, Nat.reduceAdd, Nat.reduceLeDiff, Nat.reduceSub, reduceCtorEq, reduceIte, b263_48, skM s6, srM s6, t50, z1]
  simp (disch := omega) only [nI_ti, nI_cl, le0N, ltNN, m123, m124, true_and]
  refine ⟨hlt, hlt, hlt, ?_⟩
  try simp only [lv_args, z_v, z_lg, z_h, z_u, z_u1, z_c, z_ct, z_sk, sbne, lst1_d, ldel, lst2_d, ldel2, z_sw, z_rok, zi, eq_self, List.map_cons, List.map_nil, List.append_nil, List.nil_append, List.cons_append, Int32.reduceLT, Int32.reduceLE, Int32.reduceAdd, Int32.reduceSub, Int32.reduceMul, Int32.reduceToInt, Int32.reduceToNatClampNeg, Int.reduceLT, Int.reduceLE, Int.reduceNeg, true_and, and_true, or_self, or_false, false_or, false_and, and_false, true_or, or_true, if_true, if_false, ne_eq, Classical.not_not, not_true_eq_false, not_false_eq_true, true_implies, false_implies, implies_true, Nat.reduceEqDiff, Nat.reduceAdd, Nat.reduceLeDiff, Nat.reduceSub, reduceCtorEq, reduceIte, b263_48]
  simp only [lv_args, z_v, z_lg, z_h, z_u, z_u1, z_c, z_ct, z_sk, sbne, lst1_d, ldel, lst2_d, ldel2, z_sw, z_rok, zi, eq_self, List.map_cons, List.map_nil, List.append_nil, List.nil_append, List.cons_append, Int32.reduceLT, Int32.reduceLE, Int32.reduceAdd, Int32.reduceSub, Int32.reduceMul, Int32.reduceToInt, Int32.reduceToNatClampNeg, Int.reduceLT, Int.reduceLE, Int.reduceNeg, true_and, and_true, or_self, or_false, false_or, false_and, and_false, true_or, or_true, if_true, if_false, ne_eq, Classical.not_not, not_true_eq_false, not_false_eq_true, true_implies, false_implies, implies_true, Nat.reduceEqDiff, Nat.reduceAdd, Nat.reduceLeDiff, Nat.reduceSub, reduceCtorEq, reduceIte, b186_141, skM s6, Nat.reduceLT]
  refine hq _ ?_ ?_ ?_ ?_ ⟨?_, ?_, ?_⟩ ?_ ?_ ⟨?_, ?_, ?_, ?_⟩ ?_
  · have S8 : SM G q (qe qv D0 h5) (pL (pI (pI (pA (pA (pA h6 122 (upd (hA h6 122) 0 9)) 123 (upd (hA h6 123) 0 (pF1 G))) 124 (upd (hA h6 124) 0 0)) 59 50 (nI 1)) 59 66 1) 59 65 0) := sm_L (sm_I (sm_I (sm_A (by decide) (sm_A (by decide) (sm_A (by decide) S6)))))
    obtain ⟨x1, x2, x3, x4, x5, x6, x7, _⟩ := S8
    exact ⟨x1, x2, x3, x4, x5, x6, fun n hn => by rw [x7 n hn, qe_lo (by omega)]⟩
  · refine ⟨T7, ⟨(fI 52 (by decide)).trans i52, Nat.zero_le _, by show hN h6 125 ≤ 620000; omega, fun i x e => by cases e⟩, M6, ⟨(fI 31 (by decide)).trans i31, q112.2.2.trans (by rw [c3]; exact rm.1.2 (112, 46200) (by decide)), q113.2.2.trans (by rw [c3]; exact rm.1.2 (113, 46200) (by decide)), by show pa.length ≤ 6200 + 0; omega, fun i u v e => ?_, (fI 39 (by decide)).trans i39, show 0 ≤ 40000 by decide, q126.2.2.trans (by rw [c3]; exact rm.1.2 (126, 3000) (by decide)), ?_, fun g x e => ?_⟩, ⟨(fI 58 (by decide)).trans i58, (fI 59 (by decide)).trans i59, show 0 ≤ 1000 by decide, ?_, ?_, ?_, hbu⟩, Nat.le_refl _⟩
    · have := cP i u v e
      exact ⟨(congrFun q112.2.1 i).trans this.1, (congrFun q113.2.1 i).trans this.2⟩
    · show (List.replicate (pDf G) (vof 9 0)).length ≤ 100
      rw [List.length_replicate]; exact hW.2.2.2.2.1
    · have hg := g_lt e
      have e : (List.replicate (pDf G) (vof 9 0))[g]? = some x := e
      have hg : g < (List.replicate (pDf G) (vof 9 0)).length := hg
      have hx := List.eq_of_mem_replicate (List.mem_of_getElem? e)
      rw [List.length_replicate] at hg
      rw [hx]
      exact (congrFun q126.2.1 g).trans (c126 g hg)
    · show hL h6 59 62 = Int64.ofNat 0
      rw [f2]; exact l62
    · show hL h6 59 64 = 0
      rw [f2]; exact l64
    · show hI h6 59 61 = nI bu
      rw [fI 61 (by decide), c11]; exact ebu
  · exact ⟨rfl, Or.inr ⟨rfl, rfl⟩⟩
  · refine ⟨⟨rm6.1.2 (127, 200) (by decide), (fI 55 (by decide)).trans i55, by decide, fun j x e => by cases e⟩, rm6.1.2 (128, 1000) (by decide), (fI 57 (by decide)).trans i57, by decide, fun j x e => by cases e⟩
  · exact (fI 69 (by decide)).trans i69
  · exact (fI 60 (by decide)).trans i60
  · show hL h6 59 63 = 0
    rw [f2]; exact l63
  · intro j hj
    exact (congrFun q129.2.1 j).trans (c129 j hj)
  · show hR h6 = hR h
    rw [f1, c2]
  · exact (fI 1 (by decide)).trans c7
  · exact (fI 2 (by decide)).trans c8
  · exact (fI 3 (by decide)).trans c9
  · exact (fI 19 (by decide)).trans c10
  · show hA h6 60 = hA h 60
    rw [q60.1, cA 60 (by decide) (by decide)]
def B4 (G : PG) (qv : Nat → Int64) (pa : List (Int64 × Int64)) (h h5 : Hp) : Prop :=
  (hK h5 = hK h ∧ hR h5 = hR h ∧ hN h5 = hN h ∧ hn h5 = hn h ∧ hu h5 = hu h) ∧ (∀ a, a ≠ 59 → hI h5 a = hI h a) ∧ (hI h5 59 1 = hI h 59 1 ∧ hI h5 59 2 = hI h 59 2 ∧ hI h5 59 3 = hI h 59 3 ∧ hI h5 59 19 = hI h 59 19 ∧ hI h5 59 61 = hI h 59 61) ∧
  (hI h5 59 31 = nI pa.length ∧ hI h5 59 37 = 0 ∧ hI h5 59 38 = 0 ∧ hI h5 59 39 = 0 ∧ hI h5 59 44 = 0 ∧ hI h5 59 45 = 0 ∧ hI h5 59 46 = -1 ∧ hI h5 59 50 = 0 ∧ hI h5 59 52 = 0) ∧ (∀ a, a ≠ 115 → a ≠ 120 → hA h5 a = hA h a) ∧
  (∃ fl, Fch (hA h5 120) (hI h5 59 42) fl ∧ fl.Nodup ∧ ∀ x, x ∈ fl → x < hN h 119) ∧ (∀ (i : Nat) (u v : Int64), pa[i]? = some (u, v) → hB h5 112 i = u ∧ hB h5 113 i = v) ∧ (∀ n, n < pNn G → hB h5 114 n = qv n)
theorem sk_u1 {k i : Nat} {v : Int32} (s : Sk h) : Sk (pI h k i v) := ⟨s.1, s.2.1, s.2.2⟩
theorem sk_u2 {k i : Nat} {v : Int64} (s : Sk h) : Sk (pL h k i v) := ⟨s.1, s.2.1, s.2.2⟩
theorem sk_u3 {k : Nat} {v : Nat → Int32} (s : Sk h) : Sk (pA h k v) := ⟨s.1, s.2.1, s.2.2⟩
theorem sk_u4 {k : Nat} {v : Nat → Int64} (s : Sk h) : Sk (pB h k v) := ⟨s.1, s.2.1, s.2.2⟩
theorem bg_mid {H : Hp} {pa : List (Int64 × Int64)} {bu : Nat} (B : B4 G qv pa h H) (s : Sk h) (vy : Vy h) (rm : Rm h) (rq : Rq h) (P : PM G q h) (r17 : hR h 59 17 = some q) (hW : WG G) (r18 : hR h 59 18 = some (152 - q)) (hQ : Qst G (pNn G) qv pa) (hpa : pa.length ≤ 6200) (hbu : bu ≤ 20000) (ebu : hI h 59 61 = nI bu) (hd : 30 < d)
    (hq : ∀ h', SM0 G q qv h' → RZn (y0 G pa bu) h' → MXc none 0 h' → MXp [] [] h' → (hI h' 59 69 = -1 ∧ hI h' 59 60 = -1 ∧ hL h' 59 63 = 0) → (∀ j, j < 4 → hB h' 129 j = 0) → hR h' = hR h → (hI h' 59 1 = hI h 59 1 ∧ hI h' 59 2 = hI h 59 2 ∧ hI h' 59 3 = hI h 59 3 ∧ hI h' 59 19 = hI h 59 19) → hA h' 60 = hA h 60 → Q none h') : aWP d 186 50 [(1, .int (nI 0)), (0, .ref 59)] [] H Q := by
  obtain ⟨⟨c1, c2, c3, c4, c5⟩, c6, ⟨c7, c8, c9, c10, c11⟩, ⟨i31, i37, i38, i39, i44, i45, i46, i50, i52⟩, cA, cF, cP, c114⟩ := B
  have hq66 : q = 66 ∨ q = 86 := P.1
  have sH : Sk H := (sk_same c1 c2 c4 : Sk _ = Sk h) ▸ s
  have PH : PM G q H := pm_same (c6 q (by omega)) (fun j hj => ⟨cA _ (by omega) (by omega), by rw [c3]⟩) P
  have kq : hK H q = 11 := (prf sH PH.1).1.1
  have lp := gl_loop (d := d) (Q := Q) (q := q) (N := pDf G) sH (show hR H 59 17 = some q by rw [c2]; exact r17) kq PH.2.2.2.2.2.2.2.2.2.2.1 (show hN H 126 = 3000 by rw [c3]; exact rm.1.2 (126, 3000) (by decide)) hW.2.2.2.2.1 (fun u hu => by
    have key : ∀ X : Hp, X = pI (pL (pL (pL (pI (pI (pI (pI (pI (pB H 126 u) 59 55 0) 59 57 0) 59 58 0) 59 59 0) 59 60 (-1)) 59 62 0) 59 63 0) 59 64 0) 59 69 (-1) → aWP d 186 123 [(1, .int (nI 0)), (0, .ref 59)] [] X Q := by
      intro X eX
      have s4 : Sk X := by rw [eX]; exact sk_u1 (sk_u2 (sk_u2 (sk_u2 (sk_u1 (sk_u1 (sk_u1 (sk_u1 (sk_u1 (sk_u4 sH)))))))))
      have n129 : hN X 129 = 4 := by
        rw [eX]
        show hN H 129 = 4
        rw [c3]; exact rm.1.2 (129, 4) (by decide)
      have l2 := pl_loop (d := d) (Q := Q) s4 n129 (fun w hw => by
        refine bg_end (h := h) (G := G) (q := q) (qv := qv) (pa := pa) (bu := bu) ?_ s vy rm rq P r17 hW r18 hpa hbu ebu (by omega) hq
        subst eX
        refine ⟨⟨c1, c2, c3, c4, c5⟩, fun a ha => ?_, ⟨c7, c8, c9, c10, c11⟩, ⟨i31, i37, i38, i39, i44, i45, i46, i50, i52, rfl, rfl, rfl, rfl, rfl, rfl⟩, ⟨rfl, rfl, rfl⟩, cA, cF, cP, c114, hu, hw⟩
        funext b
        have n59 : ∀ i, ¬ (a = 59 ∧ b = i) := fun i c => ha c.1
        refine (up2_ne (n59 _)).trans ((up2_ne (n59 _)).trans ((up2_ne (n59 _)).trans ((up2_ne (n59 _)).trans ((up2_ne (n59 _)).trans ((up2_ne (n59 _)).trans ?_)))))
        exact congrFun (c6 a ha) b) 4 0 (hB X 129) rfl (fun n hn => absurd hn (Nat.not_lt_zero n))
      rw [pB_self] at l2
      exact l2
    have l2 := key _ rfl
    simp only [lv_args, z_v, z_lg, z_h, z_u, z_u1, z_c, z_ct, z_sk, sbne, lst1_d, ldel, lst2_d, ldel2, z_sw, z_rok, zi, eq_self, List.map_cons, List.map_nil, List.append_nil, List.nil_append, List.cons_append, Int32.reduceLT, Int32.reduceLE, Int32.reduceAdd, Int32.reduceSub, Int32.reduceMul, Int32.reduceToInt, Int32.reduceToNatClampNeg, Int.reduceLT, Int.reduceLE, Int.reduceNeg, true_and, and_true, or_self, or_false, false_or, false_and, and_false, true_or, or_true, if_true, if_false, ne_eq, Classical.not_not, not_true_eq_false, not_false_eq_true, true_implies, false_implies, implies_true, Nat.reduceEqDiff, Nat.reduceAdd, Nat.reduceLeDiff, Nat.reduceSub, reduceCtorEq, reduceIte, b186_76, skM sH]
    exact l2) (pDf G) 0 (hB H 126) (by omega) (fun n hn => absurd hn (Nat.not_lt_zero n))
  rw [pB_self] at lp
  exact lp
theorem sp_begins {pa : List (Int64 × Int64)} {bu : Nat} (s : Sk h) (vy : Vy h) (rm : Rm h) (rq : Rq h) (P : PM G q h) (r17 : hR h 59 17 = some q) (hW : WG G) (r18 : hR h 59 18 = some (152 - q)) (hQ : Qst G (pNn G) qv pa) (hpa : pa.length ≤ 6200) (hbu : bu ≤ 20000) (ebu : hI h 59 61 = nI bu) (hd : 30 < d)
    (hq : ∀ h', SM0 G q qv h' → RZn (y0 G pa bu) h' → MXc none 0 h' → MXp [] [] h' → (hI h' 59 69 = -1 ∧ hI h' 59 60 = -1 ∧ hL h' 59 63 = 0) → (∀ j, j < 4 → hB h' 129 j = 0) → hR h' = hR h → (hI h' 59 1 = hI h 59 1 ∧ hI h' 59 2 = hI h 59 2 ∧ hI h' 59 3 = hI h 59 3 ∧ hI h' 59 19 = hI h 59 19) → hA h' 60 = hA h 60 → Q none h') : aEv d 186 [.ref 59] h Q := by
  have h0 : 0 < d := by omega
  have hq66 : q = 66 ∨ q = 86 := P.1
  have b : BQ G q h := ⟨s, P, r17, rm.1.2 (112, 46200) (by decide), rm.1.2 (113, 46200) (by decide), rm.1.2 (114, 6200) (by decide), rm.1.2 (115, 6200) (by decide)⟩
  obtain ⟨⟨t123, t124⟩, ⟨t120, t119⟩, t121, _⟩ := id rq
  have l119 : hN h 119 ≤ 300000 := by omega
  unfold aEv
  simp only [lv_args, z_v, z_lg, z_h, z_u, z_u1, z_c, z_ct, z_sk, sbne, lst1_d, ldel, lst2_d, ldel2, z_sw, z_rok, zi, eq_self, List.map_cons, List.map_nil, List.append_nil, List.nil_append, List.cons_append, Int32.reduceLT, Int32.reduceLE, Int32.reduceAdd, Int32.reduceSub, Int32.reduceMul, Int32.reduceToInt, Int32.reduceToNatClampNeg, Int.reduceLT, Int.reduceLE, Int.reduceNeg, true_and, and_true, or_self, or_false, false_or, false_and, and_false, true_or, or_true, if_true, if_false, ne_eq, Classical.not_not, not_true_eq_false, not_false_eq_true, true_implies, false_implies, implies_true, Nat.reduceEqDiff, Nat.reduceAdd, Nat.reduceLeDiff, Nat.reduceSub, reduceCtorEq, reduceIte, b186_0, skM s, h0]
  refine sp_quotes b (by omega) hQ hpa (fun h1 F e14 pq => ?_)
  have s1 := (frq_bq F b).1
  have P1 := (frq_bq F b).2.1
  obtain ⟨p31, pcs⟩ := pq
  obtain ⟨f1, f2, f3, f4, f5, f6, f7, f8, f9, f10⟩ := F
  have fI : ∀ i, i ≠ 31 → hI h1 59 i = hI h 59 i := fun i hi => f7 59 i (fun c => hi c.2)
  have s2 : Sk (pI (pI (pI h1 59 37 0) 59 38 0) 59 39 0) := (sk_same rfl rfl rfl : Sk _ = Sk h1) ▸ s1
  simp only [lv_args, z_v, z_lg, z_h, z_u, z_u1, z_c, z_ct, z_sk, sbne, lst1_d, ldel, lst2_d, ldel2, z_sw, z_rok, zi, eq_self, List.map_cons, List.map_nil, List.append_nil, List.nil_append, List.cons_append, Int32.reduceLT, Int32.reduceLE, Int32.reduceAdd, Int32.reduceSub, Int32.reduceMul, Int32.reduceToInt, Int32.reduceToNatClampNeg, Int.reduceLT, Int.reduceLE, Int.reduceNeg, true_and, and_true, or_self, or_false, false_or, false_and, and_false, true_or, or_true, if_true, if_false, ne_eq, Classical.not_not, not_true_eq_false, not_false_eq_true, true_implies, false_implies, implies_true, Nat.reduceEqDiff, Nat.reduceAdd, Nat.reduceLeDiff, Nat.reduceSub, reduceCtorEq, reduceIte, b186_0, skM s, skM s1, h0, Nat.reduceLT]
  refine sp_freesAll (h := pI (pI (pI h1 59 37 0) 59 38 0) 59 39 0) s2 (by show hN h1 120 = hN h1 119; rw [f3]; exact t120) (by show hN h1 119 ≤ 300000; rw [f3]; exact l119) (fun f c fl g1 g2 g3 => ?_)
  simp only [lv_args, z_v, z_lg, z_h, z_u, z_u1, z_c, z_ct, z_sk, sbne, lst1_d, ldel, lst2_d, ldel2, z_sw, z_rok, zi, eq_self, List.map_cons, List.map_nil, List.append_nil, List.nil_append, List.cons_append, Int32.reduceLT, Int32.reduceLE, Int32.reduceAdd, Int32.reduceSub, Int32.reduceMul, Int32.reduceToInt, Int32.reduceToNatClampNeg, Int.reduceLT, Int.reduceLE, Int.reduceNeg, true_and, and_true, or_self, or_false, false_or, false_and, and_false, true_or, or_true, if_true, if_false, ne_eq, Classical.not_not, not_true_eq_false, not_false_eq_true, true_implies, false_implies, implies_true, Nat.reduceEqDiff, Nat.reduceAdd, Nat.reduceLeDiff, Nat.reduceSub, reduceCtorEq, reduceIte, b186_0, skM s1, Nat.reduceLT]
  refine bg_mid (h := h) (G := G) (q := q) (qv := qv) (pa := pa) (bu := bu) ?_ s vy rm rq P r17 hW r18 hQ hpa hbu ebu hd hq
  have g3 : ∀ x, x ∈ fl → x < hN h 119 := fun x hx => by rw [← f3]; exact g3 x hx
  refine ⟨⟨f1, f2, f3, f4, f5⟩, fun a ha => ?_, ⟨fI 1 (by decide), fI 2 (by decide), fI 3 (by decide), fI 19 (by decide), fI 61 (by decide)⟩, ⟨p31, rfl, rfl, rfl, rfl, rfl, rfl, rfl, rfl⟩, fun a h1' h2' => (up1_ne h2').trans (f8 a h1'), ⟨fl, g1, g2, g3⟩, pcs, e14⟩
  funext b
  have n59 : ∀ i, ¬ (a = 59 ∧ b = i) := fun i c => ha c.1
  refine (up2_ne (n59 _)).trans ((up2_ne (n59 _)).trans ((up2_ne (n59 _)).trans ((up2_ne (n59 _)).trans ((up2_ne (n59 _)).trans ((up2_ne (n59 _)).trans ((up2_ne (n59 _)).trans ((up2_ne (n59 _)).trans ((up2_ne (n59 _)).trans ?_))))))))
  exact f7 a b (fun c => ha c.1)
end BGP
