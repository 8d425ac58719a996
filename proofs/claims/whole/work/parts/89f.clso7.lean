/-! growth of the class's rows -/
section COR7
variable {h h' : Hp} {Q : Option Value → Hp → Prop} {d : Nat} {G : PG} {p pc : Nat} {cap : Nat} {s : List Int64} {v : Int64} {a o : Int32} {ba : Nat} {se : Int32} {bk : List BK} {F : List Int64} {ce : Nat} {gc : List Int64} {r n : Nat}
theorem grw_I {mi pc : Nat} {L : ALS} {st : List Value} {x : MI} (hx : mInfo mi = some x) {i1 i2 ci j k f n : Nat} (hd1 : decode x.2.1 pc = .ok (.invokestatic i1, 3)) (hm : mlk x.2.2.2.2.1 i1 = some 139) (hd2 : decode x.2.1 (pc + 3) = .ok (.putfield i2, 3)) (hf : fl x.2.2.2.2.1 i2 = some (ci, j)) (ht : ftk (tyOf ci j) = 3) (hfin : finOK x ci j)
    (hd : 3 ≤ d) (s : Sk h) (vy : Vy h) (rm : Rm h) (hk : hK h k = ci) (hk2 : k < 130) (hr : hR h k j = some f) (hf14 : hK h f = 14) (hf1 : f ∈ GLs) (hf2 : f ≠ 1 ∧ f ≠ 18 ∧ f ≠ 19 ∧ f ≠ 29 ∧ f ≠ 66 ∧ f ≠ 86) (hdd : ∀ e, e ∈ RTl → e.2 = f → e.1 = (k, j)) (hL : ∀ z ∈ L, ∀ q, z.2 = .ref q → q ≠ f ∧ q < 130) (hn0 : n ≤ 30000000) (hl : hN h f ≤ 30000000)
    (kk : aWP d mi (pc + 6) L [] (rmI h f n) Q) : aWP d mi pc L [.int (nI n), .ref f, .ref k] h Q := by
  have h130 := s.2.2
  refine grow_I hx hd1 hm hd2 hf ht hfin hd (by simp only [z_c]; omega) hk (by omega) hr hf14 (by have := gl_lt f hf1; omega) (rm_sb rm) (vy_cl s vy) (vy_uq s vy hf2 hdd) (fun z hz => ⟨fun e => (hL z hz f e).1 rfl, fun e => absurd (hL z hz (hn h) e).2 (Nat.not_lt.mpr h130)⟩) (fun z hz => by cases hz) hn0 hl kk
theorem grw_J {mi pc : Nat} {L : ALS} {st : List Value} {x : MI} (hx : mInfo mi = some x) {i1 i2 ci j k f n : Nat} (hd1 : decode x.2.1 pc = .ok (.invokestatic i1, 3)) (hm : mlk x.2.2.2.2.1 i1 = some 140) (hd2 : decode x.2.1 (pc + 3) = .ok (.putfield i2, 3)) (hf : fl x.2.2.2.2.1 i2 = some (ci, j)) (ht : ftk (tyOf ci j) = 3) (hfin : finOK x ci j)
    (hd : 3 ≤ d) (s : Sk h) (vy : Vy h) (rm : Rm h) (hk : hK h k = ci) (hk2 : k < 130) (hr : hR h k j = some f) (hf15 : hK h f = 15) (hf1 : f ∈ GLs) (hf2 : f ≠ 1 ∧ f ≠ 18 ∧ f ≠ 19 ∧ f ≠ 29 ∧ f ≠ 66 ∧ f ≠ 86) (hdd : ∀ e, e ∈ RTl → e.2 = f → e.1 = (k, j)) (hL : ∀ z ∈ L, ∀ q, z.2 = .ref q → q ≠ f ∧ q < 130) (hn0 : n ≤ 30000000) (hl : hN h f ≤ 30000000)
    (kk : aWP d mi (pc + 6) L [] (rmJ h f n) Q) : aWP d mi pc L [.int (nI n), .ref f, .ref k] h Q := by
  have h130 := s.2.2
  refine grow_J hx hd1 hm hd2 hf ht hfin hd (by simp only [z_c]; omega) hk (by omega) hr hf15 (by have := gl_lt f hf1; omega) (rm_sb rm) (vy_cl s vy) (vy_uq s vy hf2 hdd) (fun z hz => ⟨fun e => (hL z hz f e).1 rfl, fun e => absurd (hL z hz (hn h) e).2 (Nat.not_lt.mpr h130)⟩) (fun z hz => by cases hz) hn0 hl kk
theorem sx_gro (g : Gro r n h h') (S : SX G p h) (hr : r ∈ GLs) (hr2 : 39 ≤ r) (hc : hN h' r ≤ cpR r) : SX G p h' := by
  obtain ⟨s1, s2, s3, s4, s5, s6⟩ := S
  refine ⟨gro_sk g s1, gro_vy g s2, gro_rm g s3 hr hc (by omega), px_same (by rw [g.2.1]) (fun j hj => ?_) s4, by rw [g.1]; exact s5, s6⟩
  have := g.2.2.2.2.1 (p + j) (by rcases s4.1 with rfl | rfl <;> omega) (by rcases s4.1 with rfl | rfl <;> omega)
  exact ⟨this.1, this.2.2, this.2.1⟩
theorem rxs_gro (g : Gro r n h h') (hr : r ≠ 53) (a : RXs cap s h) : RXs cap s h' := by
  obtain ⟨a1, a2, a3, a4, a5⟩ := a
  have q := g.2.2.2.2.1 53 (by decide) (Ne.symm hr)
  refine ⟨by rw [g.2.1]; exact a1, by rw [q.2.2]; exact a2, by rw [q.2.2]; exact a3, by rw [q.2.2]; exact a4, by rw [q.2.1]; exact a5⟩
theorem rxf_gro (g : Gro r n h h') (hr : r ≠ 54 ∧ r ≠ 55 ∧ r ≠ 56) (a : RXf pc ba se bk h) : RXf pc ba se bk h' := by
  obtain ⟨f1, f2, f3, f4, f5, f6, f7, f8, f9, f10⟩ := a
  have q := g.2.2.2.2.1 54 (by decide) (Ne.symm hr.1)
  have q1 := g.2.2.2.2.1 55 (by decide) (Ne.symm hr.2.1)
  have q2 := g.2.2.2.2.1 56 (by decide) (Ne.symm hr.2.2)
  refine ⟨by rw [g.2.1]; exact f1, by rw [g.2.1]; exact f2, by rw [g.2.1]; exact f3, by rw [g.2.1]; exact f4, f5, f6, f7, by rw [q.2.2, q1.2.2, q2.2.2]; exact f8, by rw [q.2.2, q1.2.2, q2.2.2]; exact f9, by rw [q.1, q1.1, q2.1]; exact f10⟩
theorem rxh_gro (g : Gro r n h h') (hr : r ≠ 49 ∧ r ≠ 57) (a : RXh F ce gc h) : RXh F ce gc h' := by
  obtain ⟨b1, b2, b3, b4, b5, b6, b7, b8, b9⟩ := a
  have q := g.2.2.2.2.1 49 (by decide) (Ne.symm hr.1)
  have q1 := g.2.2.2.2.1 57 (by decide) (Ne.symm hr.2)
  exact ⟨by rw [g.2.1]; exact b1, by rw [q.2.2]; exact b2, by rw [q.2.2]; exact b3, by rw [q.2.1]; exact b4, by rw [g.2.1]; exact b5, b6, by rw [q1.2.2]; exact b7, b8, by rw [q1.2.1]; exact b9⟩
theorem rxd_gro {th st lf : Nat} {lt : Int64} (g : Gro r n h h') (a : RXd th st lt lf h) : RXd th st lt lf h' := by
  unfold RXd at a ⊢
  rw [g.2.1, g.2.2.1]; exact a
theorem rxp_gro {inp out : List Int32} (g : Gro r n h h') (hr : r ≠ 51 ∧ r ≠ 52) (a : RXp inp out h) : RXp inp out h' := by
  have q := g.2.2.2.2.1 51 (by decide) (Ne.symm hr.1)
  have q1 := g.2.2.2.2.1 52 (by decide) (Ne.symm hr.2)
  unfold RXp at a ⊢
  rw [g.2.1, q.1, q.2.2, q1.1, q1.2.2]; exact a
/-- a call is opened -/
def hOp (h : Hp) (n pc ba : Nat) (se : Int32) (b2 : Nat) : Hp := pI (pI (pA (pA (pA (rmI (rmI (rmI h 54 (n + 1)) 55 (n + 1)) 56 (n + 1)) 54 (upd (hA (rmI (rmI (rmI h 54 (n + 1)) 55 (n + 1)) 56 (n + 1)) 54) n (nI (pc + 1)))) 55 (upd (hA (rmI (rmI (rmI h 54 (n + 1)) 55 (n + 1)) 56 (n + 1)) 55) n (nI ba))) 56 (upd (hA (rmI (rmI (rmI h 54 (n + 1)) 55 (n + 1)) 56 (n + 1)) 56) n se)) 47 8 (nI (n + 1))) 47 5 (nI b2)
theorem op_n3 : (∀ e, e ∈ RTl → e.2 = 54 → e.1 = (47, 9)) ∧ (∀ e, e ∈ RTl → e.2 = 55 → e.1 = (47, 10)) ∧ (∀ e, e ∈ RTl → e.2 = 56 → e.1 = (47, 11)) ∧ (∀ e, e ∈ RTl → e.2 = 53 → e.1 = (47, 3)) ∧ (∀ e, e ∈ RTl → e.2 = 49 → e.1 = (48, 0)) ∧ (∀ e, e ∈ RTl → e.2 = 52 → e.1 = (50, 3)) := by decide +kernel
/-- the rows of open calls have room for one more -/
theorem gro3 (S : SX G p h) (hn : n ≤ 1000) : Gro 54 n h (rmI h 54 n) ∧ Gro 55 n (rmI h 54 n) (rmI (rmI h 54 n) 55 n) ∧ Gro 56 n (rmI (rmI h 54 n) 55 n) (rmI (rmI (rmI h 54 n) 55 n) 56 n) ∧ SX G p (rmI h 54 n) ∧ SX G p (rmI (rmI h 54 n) 55 n) ∧ SX G p (rmI (rmI (rmI h 54 n) 55 n) 56 n) := by
  have cap : ∀ {r : Nat} {h h' : Hp}, Rm h → r = 54 ∨ r = 55 ∨ r = 56 → Gro r n h h' → hN h ≠ hN h → False := fun _ _ _ c => c rfl
  have big : ∀ {r : Nat} {h : Hp} (S : SX G p h), r = 54 ∨ r = 55 ∨ r = 56 → Gro r n h (rmI h r n) ∧ SX G p (rmI h r n) := fun {r h} S hr => by
    have hg := gro_I S.1 (a := r) (by omega) n
    have hr1 : r ∈ GLs := by rcases hr with rfl | rfl | rfl <;> decide
    have hcp : cpR r = 3100 := by rcases hr with rfl | rfl | rfl <;> rfl
    refine ⟨hg.1, sx_gro hg.1 S hr1 (by omega) ?_⟩
    have h3 := (S.2.2.1.2.2 r hr1).2
    rw [hcp] at h3 ⊢
    have h130 := S.1.2.2
    have := (rmI_r h r n (by omega)).2.2.2.2.2.2.2.2.1
    by_cases c : n ≤ hN h r
    · rw [if_pos c] at this; omega
    · rw [if_neg c] at this; omega
  have g1 := big S (r := 54) (Or.inl rfl)
  have g2 := big g1.2 (r := 55) (Or.inr (Or.inl rfl))
  have g3 := big g2.2 (r := 56) (Or.inr (Or.inr rfl))
  exact ⟨g1.1, g2.1, g3.1, g1.2, g2.2, g3.2⟩
theorem sp_open {g top : Nat} (S : SX G p h) (hd : 4 < d) (f : RXf pc ba se bk h) (hbk : bk.length < 1000) (h4 : hI h 47 4 = nI (top + g)) (hq : Q none (hOp h bk.length pc ba se top)) : aEv d 61 [.ref 47, .int (nI g)] h Q := by
  have h0 : 0 < d := by omega
  obtain ⟨f1, f2, f3, f4, f5, f6, f7, f8, ⟨f9, f9b, f9c⟩, f10⟩ := f
  obtain ⟨g1, g2, g3, s1, s2, s3⟩ := gro3 S (n := bk.length + 1) (by omega)
  have k := S.1
  have k1 := s1.1
  have k2 := s2.1
  have k3 := s3.1
  have l1 : hN (rmI h 54 (bk.length + 1)) 55 < 1000000 := by rw [(g1.2.2.2.2.1 55 (by decide) (by decide)).2.2]; exact f9b
  have l2 : hN (rmI (rmI h 54 (bk.length + 1)) 55 (bk.length + 1)) 56 < 1000000 := by rw [(g2.2.2.2.2.1 56 (by decide) (by decide)).2.2, (g1.2.2.2.2.1 56 (by decide) (by decide)).2.2]; exact f9c
  have i1 : hI (rmI h 54 (bk.length + 1)) = hI h := g1.2.1
  have i2 : hI (rmI (rmI h 54 (bk.length + 1)) 55 (bk.length + 1)) = hI h := g2.2.1.trans i1
  have i3 : hI (rmI (rmI (rmI h 54 (bk.length + 1)) 55 (bk.length + 1)) 56 (bk.length + 1)) = hI h := g3.2.1.trans i2
  have n54 : bk.length + 1 ≤ hN (rmI (rmI (rmI h 54 (bk.length + 1)) 55 (bk.length + 1)) 56 (bk.length + 1)) 54 := by rw [(g3.2.2.2.2.1 54 (by decide) (by decide)).2.2, (g2.2.2.2.2.1 54 (by decide) (by decide)).2.2]; exact g1.2.2.2.2.2.1
  have n55 : bk.length + 1 ≤ hN (rmI (rmI (rmI h 54 (bk.length + 1)) 55 (bk.length + 1)) 56 (bk.length + 1)) 55 := by rw [(g3.2.2.2.2.1 55 (by decide) (by decide)).2.2]; exact g2.2.2.2.2.2.1
  have n56 : bk.length + 1 ≤ hN (rmI (rmI (rmI h 54 (bk.length + 1)) 55 (bk.length + 1)) 56 (bk.length + 1)) 56 := g3.2.2.2.2.2.1
  have lL : ∀ {f : Nat}, f ≠ 47 → ∀ z ∈ [((0 : Nat), Value.ref 47), (1, Value.int (nI g))], ∀ q, z.2 = .ref q → q ≠ f ∧ q < 130 := fun {f} hf z hz q e => by
    simp only [List.mem_cons, List.not_mem_nil, or_false] at hz
    rcases hz with rfl | rfl
    · injection e with e
      subst e
      exact ⟨Ne.symm hf, by decide⟩
    · cases e
  unfold aEv
  simp only [lv_args, z_v, z_lg, z_h, z_u, z_u1, z_c, z_ct, z_sk, sbne, lst1_d, ldel, lst2_d, ldel2, z_sw, z_rok, zi, eq_self, List.map_cons, List.map_nil, List.append_nil, List.nil_append, List.cons_append, Int32.reduceLT, Int32.reduceLE, Int32.reduceAdd, Int32.reduceSub, Int32.reduceMul, Int32.reduceToInt, Int32.reduceToNatClampNeg, Int.reduceLT, Int.reduceLE, Int.reduceNeg, true_and, and_true, or_self, or_false, false_or, false_and, and_false, true_or, or_true, if_true, if_false, ne_eq, Classical.not_not, not_true_eq_false, not_false_eq_true, true_implies, false_implies, implies_true, Nat.reduceEqDiff, Nat.reduceAdd, Nat.reduceLeDiff, Nat.reduceSub, reduceCtorEq, reduceIte, b61_0, skX k, srX k, f4, nI_1]
  refine grw_I (st := []) mm_61 dX3_openCall_11 ml_3_252 dX3_openCall_14 fl_3_29 rfl (by unfold finOK; decide +kernel) (by omega) k S.2.1 S.2.2.1 (k.1 47 (by decide)) (by decide) (k.2.1 47 9 rfl) (k.1 54 (by decide)) (by decide) (by decide) op_n3.1 (lL (by decide)) (by omega) (by omega) ?_
  simp only [lv_args, z_v, z_lg, z_h, z_u, z_u1, z_c, z_ct, z_sk, sbne, lst1_d, ldel, lst2_d, ldel2, z_sw, z_rok, zi, eq_self, List.map_cons, List.map_nil, List.append_nil, List.nil_append, List.cons_append, Int32.reduceLT, Int32.reduceLE, Int32.reduceAdd, Int32.reduceSub, Int32.reduceMul, Int32.reduceToInt, Int32.reduceToNatClampNeg, Int.reduceLT, Int.reduceLE, Int.reduceNeg, true_and, and_true, or_self, or_false, false_or, false_and, and_false, true_or, or_true, if_true, if_false, ne_eq, Classical.not_not, not_true_eq_false, not_false_eq_true, true_implies, false_implies, implies_true, Nat.reduceEqDiff, Nat.reduceAdd, Nat.reduceLeDiff, Nat.reduceSub, reduceCtorEq, reduceIte, b61_17, skX k1, srX k1, i1, f4, nI_1]
  refine grw_I (st := []) mm_61 dX3_openCall_28 ml_3_252 dX3_openCall_31 fl_3_33 rfl (by unfold finOK; decide +kernel) (by omega) k1 s1.2.1 s1.2.2.1 (k1.1 47 (by decide)) (by decide) (k1.2.1 47 10 rfl) (k1.1 55 (by decide)) (by decide) (by decide) op_n3.2.1 (lL (by decide)) (by omega) (by omega) ?_
  simp only [lv_args, z_v, z_lg, z_h, z_u, z_u1, z_c, z_ct, z_sk, sbne, lst1_d, ldel, lst2_d, ldel2, z_sw, z_rok, zi, eq_self, List.map_cons, List.map_nil, List.append_nil, List.nil_append, List.cons_append, Int32.reduceLT, Int32.reduceLE, Int32.reduceAdd, Int32.reduceSub, Int32.reduceMul, Int32.reduceToInt, Int32.reduceToNatClampNeg, Int.reduceLT, Int.reduceLE, Int.reduceNeg, true_and, and_true, or_self, or_false, false_or, false_and, and_false, true_or, or_true, if_true, if_false, ne_eq, Classical.not_not, not_true_eq_false, not_false_eq_true, true_implies, false_implies, implies_true, Nat.reduceEqDiff, Nat.reduceAdd, Nat.reduceLeDiff, Nat.reduceSub, reduceCtorEq, reduceIte, b61_34, skX k2, srX k2, i2, f4, nI_1]
  refine grw_I (st := []) mm_61 dX3_openCall_45 ml_3_252 dX3_openCall_48 fl_3_36 rfl (by unfold finOK; decide +kernel) (by omega) k2 s2.2.1 s2.2.2.1 (k2.1 47 (by decide)) (by decide) (k2.2.1 47 11 rfl) (k2.1 56 (by decide)) (by decide) (by decide) op_n3.2.2.1 (lL (by decide)) (by omega) (by omega) ?_
  have e1 : nI (top + g) - nI g = nI top := by rw [← nI_add]; exact Int32.add_sub_cancel _ _
  simp only [lv_args, z_v, z_lg, z_h, z_u, z_u1, z_c, z_ct, z_sk, sbne, lst1_d, ldel, lst2_d, ldel2, z_sw, z_rok, zi, eq_self, List.map_cons, List.map_nil, List.append_nil, List.nil_append, List.cons_append, Int32.reduceLT, Int32.reduceLE, Int32.reduceAdd, Int32.reduceSub, Int32.reduceMul, Int32.reduceToInt, Int32.reduceToNatClampNeg, Int.reduceLT, Int.reduceLE, Int.reduceNeg, true_and, and_true, or_self, or_false, false_or, false_and, and_false, true_or, or_true, if_true, if_false, ne_eq, Classical.not_not, not_true_eq_false, not_false_eq_true, true_implies, false_implies, implies_true, Nat.reduceEqDiff, Nat.reduceAdd, Nat.reduceLeDiff, Nat.reduceSub, reduceCtorEq, reduceIte, b61_51, skX k3, srX k3, i3, f1, f2, f3, f4, h4, nI_1, e1]
  simp (disch := omega) only [nI_ti, nI_cl, le0N, ltNN, true_and]
  exact ⟨by omega, by omega, by omega, hq⟩
end COR7
