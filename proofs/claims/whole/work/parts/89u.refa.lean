/-! THE REFERENCE: rows made longer -/
theorem cpy_s {f : Nat → Int32} {j : Nat} : upd (va_cpy f (fun _ => 0) 0 0 j) j (f j) = va_cpy f (fun _ => 0) 0 0 (j + 1) := by
  funext i
  unfold upd va_cpy
  by_cases c : i = j
  · subst c
    rw [if_pos rfl, if_pos (by omega), Nat.sub_zero, Nat.zero_add]
  · rw [if_neg c]
    by_cases c2 : 0 ≤ i ∧ i < 0 + j
    · rw [if_pos c2, if_pos (by omega)]
    · rw [if_neg c2, if_neg (by omega)]
section REA
variable {h : Hp} {Q : Option Value → Hp → Prop} {d : Nat}
theorem lg_loop {f n t : Nat} (hf : hK h f = 14) (hfn : f < hn h) (hl : hN h f ≤ n) (hn0 : n < 2000000000) (hq : Q (some (.ref (hn h))) (cpI h f n)) : ∀ (m j : Nat), j + m = hN h f → aWP d 236 9 [(3, .int (nI j)), (2, .ref (hn h)), (0, .ref f), (1, .int (nI t))] [] (pA (nA h 14 n) (hn h) (va_cpy (hA h f) (fun _ => 0) 0 0 j)) Q := by
  have hne : f ≠ hn h := Nat.ne_of_lt hfn
  intro m
  induction m with
  | zero =>
    intro j hj
    have kf : hK (pA (nA h 14 n) (hn h) (va_cpy (hA h f) (fun _ => 0) 0 0 j)) f = 14 := (up1_ne hne).trans hf
    have nf : hN (pA (nA h 14 n) (hn h) (va_cpy (hA h f) (fun _ => 0) 0 0 j)) f = hN h f := up1_ne hne
    have hj : j = hN h f := by omega
    have e : cpI h f n = pA (nA h 14 n) (hn h) (va_cpy (hA h f) (fun _ => 0) 0 0 j) := by
      unfold cpI
      rw [hj, Nat.min_eq_left hl]
    rw [← e] at kf nf ⊢
    generalize cpI h f n = H at *
    simp only [lv_args, z_v, z_lg, z_h, z_u, z_u1, z_c, z_ct, z_sk, sbne, lst1_d, ldel, lst2_d, ldel2, z_sw, z_rok, zi, eq_self, List.map_cons, List.map_nil, List.append_nil, List.nil_append, List.cons_append, Int32.reduceLT, Int32.reduceLE, Int32.reduceAdd, Int32.reduceSub, Int32.reduceMul, Int32.reduceToInt, Int32.reduceToNatClampNeg, Int.reduceLT, Int.reduceLE, Int.reduceNeg, true_and, and_true, or_self, or_false, false_or, false_and, and_false, true_or, or_true, if_true, if_false, ne_eq, Classical.not_not, not_true_eq_false, not_false_eq_true, true_implies, false_implies, implies_true, Nat.reduceEqDiff, Nat.reduceAdd, Nat.reduceLeDiff, Nat.reduceSub, reduceCtorEq, reduceIte, b236_9, kf, nf, Nat.reduceLeDiff]
    rw [hj]
    simp (disch := omega) only [nI_leN]
    refine ⟨fun _ => ?_, fun c => absurd (Nat.le_refl _) c⟩
    simp only [lv_args, z_v, z_lg, z_h, z_u, z_u1, z_c, z_ct, z_sk, sbne, lst1_d, ldel, lst2_d, ldel2, z_sw, z_rok, zi, eq_self, List.map_cons, List.map_nil, List.append_nil, List.nil_append, List.cons_append, Int32.reduceLT, Int32.reduceLE, Int32.reduceAdd, Int32.reduceSub, Int32.reduceMul, Int32.reduceToInt, Int32.reduceToNatClampNeg, Int.reduceLT, Int.reduceLE, Int.reduceNeg, true_and, and_true, or_self, or_false, false_or, false_and, and_false, true_or, or_true, if_true, if_false, ne_eq, Classical.not_not, not_true_eq_false, not_false_eq_true, true_implies, false_implies, implies_true, Nat.reduceEqDiff, Nat.reduceAdd, Nat.reduceLeDiff, Nat.reduceSub, reduceCtorEq, reduceIte, b236_27]
    exact hq
  | succ m ih =>
    intro j hj
    have kf : hK (pA (nA h 14 n) (hn h) (va_cpy (hA h f) (fun _ => 0) 0 0 j)) f = 14 := (up1_ne hne).trans hf
    have nf : hN (pA (nA h 14 n) (hn h) (va_cpy (hA h f) (fun _ => 0) 0 0 j)) f = hN h f := up1_ne hne
    have af : hA (pA (nA h 14 n) (hn h) (va_cpy (hA h f) (fun _ => 0) 0 0 j)) f = hA h f := (up1_ne hne).trans (up1_ne hne)
    have kq : hK (pA (nA h 14 n) (hn h) (va_cpy (hA h f) (fun _ => 0) 0 0 j)) (hn h) = 14 := up1_eq
    have nq : hN (pA (nA h 14 n) (hn h) (va_cpy (hA h f) (fun _ => 0) 0 0 j)) (hn h) = n := up1_eq
    have aq : hA (pA (nA h 14 n) (hn h) (va_cpy (hA h f) (fun _ => 0) 0 0 j)) (hn h) = va_cpy (hA h f) (fun _ => 0) 0 0 j := up1_eq
    have next := ih (j + 1) (by omega)
    have e : pA (nA h 14 n) (hn h) (va_cpy (hA h f) (fun _ => 0) 0 0 (j + 1)) = pA (pA (nA h 14 n) (hn h) (va_cpy (hA h f) (fun _ => 0) 0 0 j)) (hn h) (upd (va_cpy (hA h f) (fun _ => 0) 0 0 j) j (hA h f j)) := by
      rw [pA_pA, cpy_s]
    rw [e] at next
    generalize pA (nA h 14 n) (hn h) (va_cpy (hA h f) (fun _ => 0) 0 0 j) = H at *
    simp only [lv_args, z_v, z_lg, z_h, z_u, z_u1, z_c, z_ct, z_sk, sbne, lst1_d, ldel, lst2_d, ldel2, z_sw, z_rok, zi, eq_self, List.map_cons, List.map_nil, List.append_nil, List.nil_append, List.cons_append, Int32.reduceLT, Int32.reduceLE, Int32.reduceAdd, Int32.reduceSub, Int32.reduceMul, Int32.reduceToInt, Int32.reduceToNatClampNeg, Int.reduceLT, Int.reduceLE, Int.reduceNeg, true_and, and_true, or_self, or_false, false_or, false_and, and_false, true_or, or_true, if_true, if_false, ne_eq, Classical.not_not, not_true_eq_false, not_false_eq_true, true_implies, false_implies, implies_true, Nat.reduceEqDiff, Nat.reduceAdd, Nat.reduceLeDiff, Nat.reduceSub, reduceCtorEq, reduceIte, b236_9, kf, nf, Nat.reduceLeDiff]
    simp (disch := omega) only [nI_leN]
    refine ⟨fun c => absurd c (by omega), fun _ => ?_⟩
    simp only [lv_args, z_v, z_lg, z_h, z_u, z_u1, z_c, z_ct, z_sk, sbne, lst1_d, ldel, lst2_d, ldel2, z_sw, z_rok, zi, eq_self, List.map_cons, List.map_nil, List.append_nil, List.nil_append, List.cons_append, Int32.reduceLT, Int32.reduceLE, Int32.reduceAdd, Int32.reduceSub, Int32.reduceMul, Int32.reduceToInt, Int32.reduceToNatClampNeg, Int.reduceLT, Int.reduceLE, Int.reduceNeg, true_and, and_true, or_self, or_false, false_or, false_and, and_false, true_or, or_true, if_true, if_false, ne_eq, Classical.not_not, not_true_eq_false, not_false_eq_true, true_implies, false_implies, implies_true, Nat.reduceEqDiff, Nat.reduceAdd, Nat.reduceLeDiff, Nat.reduceSub, reduceCtorEq, reduceIte, b236_15, kf, nf, af, kq, nq, aq]
    simp (disch := omega) only [nI_ti, nI_cl, le0N, ltNN, true_and]
    refine ⟨by omega, by omega, ?_⟩
    simp only [lv_args, z_v, z_lg, z_h, z_u, z_u1, z_c, z_ct, z_sk, sbne, lst1_d, ldel, lst2_d, ldel2, z_sw, z_rok, zi, eq_self, List.map_cons, List.map_nil, List.append_nil, List.nil_append, List.cons_append, Int32.reduceLT, Int32.reduceLE, Int32.reduceAdd, Int32.reduceSub, Int32.reduceMul, Int32.reduceToInt, Int32.reduceToNatClampNeg, Int.reduceLT, Int.reduceLE, Int.reduceNeg, true_and, and_true, or_self, or_false, false_or, false_and, and_false, true_or, or_true, if_true, if_false, ne_eq, Classical.not_not, not_true_eq_false, not_false_eq_true, true_implies, false_implies, implies_true, Nat.reduceEqDiff, Nat.reduceAdd, Nat.reduceLeDiff, Nat.reduceSub, reduceCtorEq, reduceIte, b236_15, nI_1]
    exact next
theorem sp_longer {f t : Nat} (hf : hK h f = 14) (hfn : f < hn h) (hsb : hn h < SB) (ht : 1 ≤ t) (ht2 : t ≤ 4) (hl : hN h f ≤ 1000000) (hq : Q (some (.ref (hn h))) (cpI h f (t * hN h f))) : aEv d 236 [.ref f, .int (nI t)] h Q := by
  have hne : f ≠ hn h := Nat.ne_of_lt hfn
  have hm : nI t * nI (hN h f) = nI (t * hN h f) := (Int32.ofNat_mul t (hN h f)).symm
  have hb : t * hN h f ≤ 4 * hN h f := Nat.mul_le_mul_right _ ht2
  have hb2 : 1 * hN h f ≤ t * hN h f := Nat.mul_le_mul_right _ ht
  have lp := lg_loop (d := d) (t := t) (Q := Q) hf hfn (n := t * hN h f) (by omega) (by omega) hq (hN h f) 0 (by omega)
  have e0 : pA (nA h 14 (t * hN h f)) (hn h) (va_cpy (hA h f) (fun _ => 0) 0 0 0) = nA h 14 (t * hN h f) := by
    have e1 : va_cpy (hA h f) (fun _ => 0) 0 0 0 = hA (nA h 14 (t * hN h f)) (hn h) := by
      funext i
      exact (if_neg (by omega)).trans (congrFun (up1_eq : va_up (hA h) (hn h) (fun _ => (0 : Int32)) (hn h) = fun _ => 0) i).symm
    rw [e1]
    generalize nA h 14 (t * hN h f) = H
    show (H.1, H.2.1, H.2.2.1, H.2.2.2.1, va_up (hA H) (hn h) (hA H (hn h)), H.2.2.2.2.2) = H
    have e2 : va_up (hA H) (hn h) (hA H (hn h)) = hA H := by
      funext a
      unfold va_up
      split
      · rename_i e; rw [e]
      · rfl
    rw [e2]; rfl
  rw [e0] at lp
  unfold aEv
  simp only [lv_args, z_v, z_lg, z_h, z_u, z_u1, z_c, z_ct, z_sk, sbne, lst1_d, ldel, lst2_d, ldel2, z_sw, z_rok, zi, eq_self, List.map_cons, List.map_nil, List.append_nil, List.nil_append, List.cons_append, Int32.reduceLT, Int32.reduceLE, Int32.reduceAdd, Int32.reduceSub, Int32.reduceMul, Int32.reduceToInt, Int32.reduceToNatClampNeg, Int.reduceLT, Int.reduceLE, Int.reduceNeg, true_and, and_true, or_self, or_false, false_or, false_and, and_false, true_or, or_true, if_true, if_false, ne_eq, Classical.not_not, not_true_eq_false, not_false_eq_true, true_implies, false_implies, implies_true, Nat.reduceEqDiff, Nat.reduceAdd, Nat.reduceLeDiff, Nat.reduceSub, reduceCtorEq, reduceIte, b236_0, hf, Nat.reduceLeDiff, hm, hsb]
  simp (disch := omega) only [nI_ti, nI_cl, le0N, true_and]
  refine ⟨by omega, ?_⟩
  try simp only [lv_args, z_v, z_lg, z_h, z_u, z_u1, z_c, z_ct, z_sk, sbne, lst1_d, ldel, lst2_d, ldel2, z_sw, z_rok, zi, eq_self, List.map_cons, List.map_nil, List.append_nil, List.nil_append, List.cons_append, Int32.reduceLT, Int32.reduceLE, Int32.reduceAdd, Int32.reduceSub, Int32.reduceMul, Int32.reduceToInt, Int32.reduceToNatClampNeg, Int.reduceLT, Int.reduceLE, Int.reduceNeg, true_and, and_true, or_self, or_false, false_or, false_and, and_false, true_or, or_true, if_true, if_false, ne_eq, Classical.not_not, not_true_eq_false, not_false_eq_true, true_implies, false_implies, implies_true, Nat.reduceEqDiff, Nat.reduceAdd, Nat.reduceLeDiff, Nat.reduceSub, reduceCtorEq, reduceIte, b236_0]
  exact lp
/-- row f in its field is made t times as long -/
theorem grow_L {mi pc : Nat} {L : ALS} {st : List Value} {x : MI} (hx : mInfo mi = some x) {i1 i2 ci j k f t : Nat} (hd1 : decode x.2.1 pc = .ok (.invokestatic i1, 3)) (hm : mlk x.2.2.2.2.1 i1 = some 236) (hd2 : decode x.2.1 (pc + 3) = .ok (.putfield i2, 3)) (hf : fl x.2.2.2.2.1 i2 = some (ci, j)) (ht : ftk (tyOf ci j) = 3) (hfin : finOK x ci j)
    (hd : 3 ≤ d) (s : Sk h) (vy : Vy h) (rm : Rm h) (hk : hK h k = ci) (hk2 : k < 130) (hr : hR h k j = some f) (hf14 : hK h f = 14) (hf1 : f ∈ GLs) (hf2 : f ≠ 1 ∧ f ≠ 18 ∧ f ≠ 19 ∧ f ≠ 29 ∧ f ≠ 66 ∧ f ≠ 86) (hdd : ∀ e, e ∈ RTl → e.2 = f → e.1 = (k, j)) (hL : ∀ z ∈ L, ∀ q, z.2 = .ref q → q ≠ f ∧ q < 130) (ht2 : 2 ≤ t) (ht3 : t ≤ 4)
    (kk : aWP d mi (pc + 6) L [] (rmI h f (t * hN h f)) Q) : aWP d mi pc L [.int (nI t), .ref f, .ref k] h Q := by
  have h130 := s.2.2
  have h0 : 0 < d := by omega
  have hcap := (rm.2.2 f hf1)
  have hcb : cpR f ≤ 620000 := by
    unfold cpR
    repeat' split
    all_goals omega
  have hfn : f < hn h := by have := gl_lt f hf1; omega
  have hkn : k < hn h := by omega
  have hsb := rm_sb rm
  have hcl := vy_cl s vy
  have huq := vy_uq s vy hf2 hdd
  have hL1 : ∀ z ∈ L, z.2 ≠ .ref f ∧ z.2 ≠ .ref (hn h) := fun z hz => ⟨fun e => (hL z hz f e).1 rfl, fun e => absurd (hL z hz (hn h) e).2 (Nat.not_lt.mpr h130)⟩
  have hb2 : 2 * hN h f ≤ t * hN h f := Nat.mul_le_mul_right _ ht2
  have hmx : max (t * hN h f) (2 * hN h f) = t * hN h f := Nat.max_eq_left hb2
  refine (k_callS hx hd1 hm mc_236 rfl [.ref f, .int (nI t)] rfl rfl (Bool.and_false _)).mpr ⟨⟨h0, by simp only [z_c]; omega, by simp only [z_c]; omega⟩, ?_⟩
  unfold rmI at kk
  rw [if_neg (by omega), hmx] at kk
  refine sp_longer hf14 hfn hsb (by omega) ht3 (by omega) ?_
  refine ((z_ct d mi (pc + 3) L [.ref k] h (cpI h f (t * hN h f)) Q).2.2.2 (hn h)).mpr ⟨Or.inl rfl, ?_⟩
  have hfne : f ≠ hn h := Nat.ne_of_lt hfn
  have hKf : hK (cpI h f (t * hN h f)) f = 14 := (up1_ne hfne).trans hf14
  have hKq : hK (cpI h f (t * hN h f)) (hn h) = 14 := up1_eq
  have hKk : hK (cpI h f (t * hN h f)) k = ci := (up1_ne (Nat.ne_of_lt hkn)).trans hk
  have hsw : swOK (cpI h f (t * hN h f)) L [] k j f (hn h) := ⟨hfne, hKf.trans hKq.symm, by rw [hKf]; decide, hcl, huq, fun z hz => (hL1 z hz).1, fun z hz => by cases hz⟩
  refine (k_putS hx hd2 hf ht hfin (show hR (cpI h f (t * hN h f)) k j = some f from hr) hsw).mpr ⟨⟨hKk, hsb⟩, ?_⟩
  have e1 : L.map (fun x => (x.1, rnm f (hn h) x.2)) = L := by
    refine (List.map_congr_left fun z hz => ?_).trans (List.map_id L)
    show (z.1, rnm f (hn h) z.2) = z
    unfold rnm
    rw [if_neg (hL1 z hz).2]
  rw [e1]
  exact kk
end REA
