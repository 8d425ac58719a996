/-! BUILD. The compiler begins: room for a program, the names that are defined -/
theorem rt_pg : (∀ e, e ∈ RTl → e.2 = 20 → e.1 = (19, 0)) ∧ (∀ e, e ∈ RTl → e.2 = 21 → e.1 = (19, 1)) ∧ (∀ e, e ∈ RTl → e.2 = 22 → e.1 = (19, 3)) ∧ (∀ e, e ∈ RTl → e.2 = 30 → e.1 = (29, 0)) ∧ (∀ e, e ∈ RTl → e.2 = 31 → e.1 = (29, 1)) ∧ (∀ e, e ∈ RTl → e.2 = 32 → e.1 = (29, 3)) ∧ (∀ e, e ∈ RTl → e.2 = 46 → e.1 = (39, 4)) := by decide +kernel
/-- room, whatever the lengths of operations and operands -/
def RmW (h : Hp) : Prop := (hu h ≤ 561461 + 2 * Gs h ∧ Fx h) ∧ 16 * hn h ≤ 2080 + Gs h ∧ ∀ a, a ∈ GLs → 16 ≤ hN h a ∧ hN h a ≤ cpR a
section CBG
variable {h h' h0 : Hp} {Q : Option Value → Hp → Prop} {d p c1 c2 n g b : Nat} {N : NS} {mt op : List Nat} {K : List KY} {z : CR}
theorem rmw_of (r : Rm h) : RmW h := ⟨r.1, r.2.1.1, r.2.2⟩
theorem rm_of (r : RmW h) (e1 : hN h 20 = hN h 21) (e2 : hN h 30 = hN h 31) : Rm h := ⟨r.1, ⟨r.2.1, e1, e2⟩, r.2.2⟩
theorem gro_rmw {a : Nat} (g : Gro a n h h') (r : RmW h) (ha : a ∈ GLs) (hc : hN h' a ≤ cpR a) : RmW h' := by
  obtain ⟨g1, g2, g3, g4, g5, g7, g8, g9, g10⟩ := g
  obtain ⟨⟨r1, r4⟩, r2, r3⟩ := r
  have hs : Gs h' + hN h a = Gs h + hN h' a := sum_upd (f := hN h) (g := hN h') (a := a) (by decide) ha (fun b hb hne => (g5 b (gl_lt b hb) hne).2.2)
  have h16 := (r3 a ha).1
  refine ⟨⟨?_, fun e he => ?_⟩, ?_, fun b hb => ?_⟩
  · rcases g9 with ⟨e1, e2, e3⟩ | ⟨e1, e2, e3⟩ <;> omega
  · obtain ⟨l1, l2⟩ := ln_gl e he
    rw [(g5 e.1 l2 (fun c => l1 (c ▸ ha))).2.2]; exact r4 e he
  · rcases g9 with ⟨e1, e2, e3⟩ | ⟨e1, e2, e3⟩ <;> omega
  · by_cases c : b = a
    · subst c; exact ⟨by omega, hc⟩
    · rw [(g5 b (gl_lt b hb) c).2.2]; exact r3 b hb
theorem rmw_sb (r : RmW h) : hn h < SB := by
  obtain ⟨_, r2, r3⟩ := r
  have h1 : Gs h ≤ (GLs.map cpR).sum := sum_le fun b hb => (r3 b hb).2
  have h2 : (GLs.map cpR).sum = 3018444 := by decide
  rw [sb_v]
  omega
theorem grw_I2 {mi pc : Nat} {L : ALS} {st : List Value} {x : MI} (hx : mInfo mi = some x) {i1 i2 ci j k f n : Nat} (hd1 : decode x.2.1 pc = .ok (.invokestatic i1, 3)) (hm : mlk x.2.2.2.2.1 i1 = some 139) (hd2 : decode x.2.1 (pc + 3) = .ok (.putfield i2, 3)) (hf : fl x.2.2.2.2.1 i2 = some (ci, j)) (ht : ftk (tyOf ci j) = 3) (hfin : finOK x ci j)
    (hd : 3 ≤ d) (s : Sk h) (vy : Vy h) (hsb : hn h < SB) (hk : hK h k = ci) (hk2 : k < 130) (hr : hR h k j = some f) (hf14 : hK h f = 14) (hf1 : f ∈ GLs) (hf2 : f ≠ 1 ∧ f ≠ 18 ∧ f ≠ 19 ∧ f ≠ 29 ∧ f ≠ 66 ∧ f ≠ 86) (hdd : ∀ e, e ∈ RTl → e.2 = f → e.1 = (k, j)) (hL : ∀ z ∈ L, ∀ q, z.2 = .ref q → q ≠ f ∧ q < 130) (hn0 : n ≤ 30000000) (hl : hN h f ≤ 30000000)
    (kk : aWP d mi (pc + 6) L [] (rmI h f n) Q) : aWP d mi pc L [.int (nI n), .ref f, .ref k] h Q := by
  have h130 := s.2.2
  refine grow_I hx hd1 hm hd2 hf ht hfin hd (by simp only [z_c]; omega) hk (by omega) hr hf14 (by have := gl_lt f hf1; omega) hsb (vy_cl s vy) (vy_uq s vy hf2 hdd) (fun z hz => ⟨fun e => (hL z hz f e).1 rfl, fun e => absurd (hL z hz (hn h) e).2 (Nat.not_lt.mpr h130)⟩) (fun z hz => by cases hz) hn0 hl kk
/-- a program is made ready for a text of so many nodes -/
theorem sp_pbegin {k : Nat} (c : CB h) (hp : p = 19 ∨ p = 29) (hk : 1 ≤ k ∧ k ≤ 6001) (hd : 10 < d) (hq : ∀ h', CB h' → 5 * min k 1500 + 1 ≤ hN h' (p + 1) → 2 * k ≤ hN h' (p + 3) → (hI h' p 2 = 0 ∧ hI h' p 4 = 0 ∧ hI h' p 11 = 0 ∧ hI h' p 12 = 0 ∧ hI h' p 15 = 0) → hR h' = hR h → hL h' = hL h → (∀ a i, a ≠ p → hI h' a i = hI h a i) → (∀ a, a < 130 → a ≠ p + 1 → a ≠ p + 2 → a ≠ p + 3 → hA h' a = hA h a ∧ hB h' a = hB h a ∧ hN h' a = hN h a) → Q none h') : aEv d 96 [.ref p, .int (nI k)] h Q := by
  have h00 : 0 < d := by omega
  have s := c.1
  have z15 : (1500 : Int32) = nI 1500 := rfl
  have em : ∀ m : Nat, (5 : Int32) * nI m + 1 = nI (5 * m + 1) := fun m => by
    have e2 : (5 : Int32) * nI m = nI (5 * m) := (Int32.ofNat_mul 5 m).symm
    rw [e2, nI_s]
  have e2k : (2 : Int32) * nI k = nI (2 * k) := (Int32.ofNat_mul 2 k).symm
  have rm21 := c.2.2.2.1.2
  rcases hp with rfl | rfl
  · have y1 : cpR 20 = 15100 := rfl
    have y2 : cpR 21 = 15100 := rfl
    have y3 : cpR 22 = 24100 := rfl
    have kp : hK h 19 = 7 := s.1 19 (by decide)
    have l1 := (c.2.2.2.2 20 (by decide))
    have l2 := (c.2.2.2.2 21 (by decide))
    -- behind the number
    have go : ∀ m : Nat, m = 5 * min k 1500 + 1 → aWP d 96 12 [(2, .int (nI m)), (0, .ref 19), (1, .int (nI k))] [] h Q := by
      intro m hm
      have hm2 : m ≤ 7501 := by omega
      have lL : ∀ {f : Nat}, f ≠ 19 → ∀ z ∈ [((2 : Nat), Value.int (nI m)), (0, Value.ref 19), (1, Value.int (nI k))], ∀ q, z.2 = .ref q → q ≠ f ∧ q < 130 := fun {f} hf z hz q e => by
        simp only [List.mem_cons, List.not_mem_nil, or_false] at hz
        rcases hz with rfl | rfl | rfl
        · cases e
        · injection e with e
          subst e
          exact ⟨Ne.symm hf, by decide⟩
        · cases e
      obtain ⟨g1, _⟩ := gro_I s (a := 20) (by decide) m
      have n1 := (rmI_r h 20 m (by have := s.2.2; omega)).2.2.2.2.2.2.2.2.1
      have r1 : RmW (rmI h 20 m) := gro_rmw g1 (rmw_of c.2.2) (by decide) (by rw [n1]; split <;> omega)
      have s1 := gro_sk g1 s
      have v1 := gro_vy g1 c.2.1
      have n12 : hN (rmI h 20 m) 21 = hN h 21 := (g1.2.2.2.2.1 21 (by decide) (by decide)).2.2
      simp only [lv_args, z_v, z_lg, z_h, z_u, z_u1, z_c, z_ct, z_sk, sbne, lst1_d, ldel, lst2_d, ldel2, z_sw, z_rok, zi, eq_self, List.map_cons, List.map_nil, List.append_nil, List.nil_append, List.cons_append, Int32.reduceLT, Int32.reduceLE, Int32.reduceAdd, Int32.reduceSub, Int32.reduceMul, Int32.reduceToInt, Int32.reduceToNatClampNeg, Int.reduceLT, Int.reduceLE, Int.reduceNeg, true_and, and_true, or_self, or_false, false_or, false_and, and_false, true_or, or_true, if_true, if_false, ne_eq, Classical.not_not, not_true_eq_false, not_false_eq_true, true_implies, false_implies, implies_true, Nat.reduceEqDiff, Nat.reduceAdd, Nat.reduceLeDiff, Nat.reduceSub, reduceCtorEq, reduceIte, b96_0, skX s, srX s]
      refine grw_I (st := []) mm_96 dX6_begin_18 ml_6_46 dX6_begin_21 fl_6_9 rfl (by unfold finOK; decide +kernel) (by omega) s c.2.1 c.2.2 kp (by decide) (s.2.1 19 0 rfl) (s.1 20 (by decide)) (by decide) (by decide) rt_pg.1 (lL (by decide)) (by omega) (by omega) ?_
      generalize rmI h 20 m = h1 at *
      obtain ⟨g2, _⟩ := gro_I s1 (a := 21) (by decide) m
      have n2 := (rmI_r h1 21 m (by have := s1.2.2; omega)).2.2.2.2.2.2.2.2.1
      have r2 : RmW (rmI h1 21 m) := gro_rmw g2 r1 (by decide) (by rw [n2, n12]; split <;> omega)
      have s2 := gro_sk g2 s1
      have v2 := gro_vy g2 v1
      have n21 : hN (rmI h1 21 m) 20 = hN h1 20 := (g2.2.2.2.2.1 20 (by decide) (by decide)).2.2
      have o1 : ∀ a, a < 130 → a ≠ 20 → a ≠ 21 → hN (rmI h1 21 m) a = hN h a := fun a ha b1 b2 => (g2.2.2.2.2.1 a ha b2).2.2.trans (g1.2.2.2.2.1 a ha b1).2.2
      have c2 : CB (rmI h1 21 m) := ⟨s2, v2, rm_of r2 (by
        have a1 := o1 20
        have a2 := o1 21
        first
          | (rw [n21, n1, n2, n12, rm21.1])
          | (rw [a1 (by decide) (by decide) (by decide), a2 (by decide) (by decide) (by decide)]; exact rm21.1)) (by
        have a1 := o1 30
        have a2 := o1 31
        first
          | (rw [n21, n1, n2, n12, rm21.2])
          | (rw [a1 (by decide) (by decide) (by decide), a2 (by decide) (by decide) (by decide)]; exact rm21.2))⟩
      have m1 : m ≤ hN (rmI h1 21 m) 20 := by rw [n21, n1]; split <;> omega
      have kp1 : hK h1 19 = 7 := s1.1 19 (by decide)
      simp only [lv_args, z_v, z_lg, z_h, z_u, z_u1, z_c, z_ct, z_sk, sbne, lst1_d, ldel, lst2_d, ldel2, z_sw, z_rok, zi, eq_self, List.map_cons, List.map_nil, List.append_nil, List.nil_append, List.cons_append, Int32.reduceLT, Int32.reduceLE, Int32.reduceAdd, Int32.reduceSub, Int32.reduceMul, Int32.reduceToInt, Int32.reduceToNatClampNeg, Int.reduceLT, Int.reduceLE, Int.reduceNeg, true_and, and_true, or_self, or_false, false_or, false_and, and_false, true_or, or_true, if_true, if_false, ne_eq, Classical.not_not, not_true_eq_false, not_false_eq_true, true_implies, false_implies, implies_true, Nat.reduceEqDiff, Nat.reduceAdd, Nat.reduceLeDiff, Nat.reduceSub, reduceCtorEq, reduceIte, b96_24, skX s1, srX s1]
      refine grw_I2 (st := []) mm_96 dX6_begin_30 ml_6_46 dX6_begin_33 fl_6_15 rfl (by unfold finOK; decide +kernel) (by omega) s1 v1 (rmw_sb r1) kp1 (by decide) (s1.2.1 19 1 rfl) (s1.1 21 (by decide)) (by decide) (by decide) rt_pg.2.1 (lL (by decide)) (by omega) (by omega) ?_
      generalize rmI h1 21 m = h2 at *
      obtain ⟨c3, m3, g3, _⟩ := cb_J (n := 2 * k) c2 (r := 22) (by decide) (by omega) (by omega)
      have l3 := (c2.2.2.2.2 22 (by decide)).2
      have kp2 : hK h2 19 = 7 := s2.1 19 (by decide)
      simp only [lv_args, z_v, z_lg, z_h, z_u, z_u1, z_c, z_ct, z_sk, sbne, lst1_d, ldel, lst2_d, ldel2, z_sw, z_rok, zi, eq_self, List.map_cons, List.map_nil, List.append_nil, List.nil_append, List.cons_append, Int32.reduceLT, Int32.reduceLE, Int32.reduceAdd, Int32.reduceSub, Int32.reduceMul, Int32.reduceToInt, Int32.reduceToNatClampNeg, Int.reduceLT, Int.reduceLE, Int.reduceNeg, true_and, and_true, or_self, or_false, false_or, false_and, and_false, true_or, or_true, if_true, if_false, ne_eq, Classical.not_not, not_true_eq_false, not_false_eq_true, true_implies, false_implies, implies_true, Nat.reduceEqDiff, Nat.reduceAdd, Nat.reduceLeDiff, Nat.reduceSub, reduceCtorEq, reduceIte, b96_36, skX s2, srX s2, e2k]
      refine grw_J (st := []) mm_96 dX6_begin_44 ml_6_52 dX6_begin_47 fl_6_18 rfl (by unfold finOK; decide +kernel) (by omega) s2 c2.2.1 c2.2.2 kp2 (by decide) (s2.2.1 19 3 rfl) (s2.1 22 (by decide)) (by decide) (by decide) rt_pg.2.2.1 (lL (by decide)) (by omega) (by omega) ?_
      have n31 : hN (rmJ h2 22 (2 * k)) 20 = hN h2 20 := (g3.2.2.2.2.1 20 (by decide) (by decide)).2.2
      generalize rmJ h2 22 (2 * k) = h3 at *
      have s3 := c3.1
      have kp3 : hK h3 19 = 7 := s3.1 19 (by decide)
      have iE : hI h3 = hI h := g3.2.1.trans (g2.2.1.trans g1.2.1)
      simp only [lv_args, z_v, z_lg, z_h, z_u, z_u1, z_c, z_ct, z_sk, sbne, lst1_d, ldel, lst2_d, ldel2, z_sw, z_rok, zi, eq_self, List.map_cons, List.map_nil, List.append_nil, List.nil_append, List.cons_append, Int32.reduceLT, Int32.reduceLE, Int32.reduceAdd, Int32.reduceSub, Int32.reduceMul, Int32.reduceToInt, Int32.reduceToNatClampNeg, Int.reduceLT, Int.reduceLE, Int.reduceNeg, true_and, and_true, or_self, or_false, false_or, false_and, and_false, true_or, or_true, if_true, if_false, ne_eq, Classical.not_not, not_true_eq_false, not_false_eq_true, true_implies, false_implies, implies_true, Nat.reduceEqDiff, Nat.reduceAdd, Nat.reduceLeDiff, Nat.reduceSub, reduceCtorEq, reduceIte, b96_50, skX s3, kp3]
      refine hq _ (cb_i (cb_i (cb_i (cb_i (cb_i (cb_i (cb_i c3))))))) ?_ m3 ⟨rfl, rfl, rfl, rfl, rfl⟩ (g3.1.trans (g2.1.trans g1.1)) (g3.2.2.1.trans (g2.2.2.1.trans g1.2.2.1)) (fun a i ha => ?_) (fun a ha b1 b2 b3 => ?_)
      · show 5 * min k 1500 + 1 ≤ hN h3 20
        omega
      · refine Eq.trans ?_ (congrFun (congrFun iE a) i)
        show up2 (up2 (up2 (up2 (up2 (up2 (up2 (hI h3) 19 2 0) 19 4 0) 19 11 0) 19 12 0) 19 13 0) 19 14 0) 19 15 0 a i = hI h3 a i
        rw [up2_ne (fun e => ha e.1), up2_ne (fun e => ha e.1), up2_ne (fun e => ha e.1), up2_ne (fun e => ha e.1), up2_ne (fun e => ha e.1), up2_ne (fun e => ha e.1), up2_ne (fun e => ha e.1)]
      · have a1 := g1.2.2.2.2.1 a ha b1
        have a2 := g2.2.2.2.2.1 a ha b2
        have a3 := g3.2.2.2.2.1 a ha b3
        exact ⟨a3.1.trans (a2.1.trans a1.1), a3.2.1.trans (a2.2.1.trans a1.2.1), a3.2.2.trans (a2.2.2.trans a1.2.2)⟩
    unfold aEv
    simp only [lv_args, z_v, z_lg, z_h, z_u, z_u1, z_c, z_ct, z_sk, sbne, lst1_d, ldel, lst2_d, ldel2, z_sw, z_rok, zi, eq_self, List.map_cons, List.map_nil, List.append_nil, List.nil_append, List.cons_append, Int32.reduceLT, Int32.reduceLE, Int32.reduceAdd, Int32.reduceSub, Int32.reduceMul, Int32.reduceToInt, Int32.reduceToNatClampNeg, Int.reduceLT, Int.reduceLE, Int.reduceNeg, true_and, and_true, or_self, or_false, false_or, false_and, and_false, true_or, or_true, if_true, if_false, ne_eq, Classical.not_not, not_true_eq_false, not_false_eq_true, true_implies, false_implies, implies_true, Nat.reduceEqDiff, Nat.reduceAdd, Nat.reduceLeDiff, Nat.reduceSub, reduceCtorEq, reduceIte, b96_0, h00, e285, z15, Nat.reduceLT]
    simp (disch := omega) only [nI_ltN]
    refine ⟨fun cm => ?_, fun cm => ?_⟩
    · have := go (5 * 1500 + 1) (by omega)
      simp only [lv_args, z_v, z_lg, z_h, z_u, z_u1, z_c, z_ct, z_sk, sbne, lst1_d, ldel, lst2_d, ldel2, z_sw, z_rok, zi, eq_self, List.map_cons, List.map_nil, List.append_nil, List.nil_append, List.cons_append, Int32.reduceLT, Int32.reduceLE, Int32.reduceAdd, Int32.reduceSub, Int32.reduceMul, Int32.reduceToInt, Int32.reduceToNatClampNeg, Int.reduceLT, Int.reduceLE, Int.reduceNeg, true_and, and_true, or_self, or_false, false_or, false_and, and_false, true_or, or_true, if_true, if_false, ne_eq, Classical.not_not, not_true_eq_false, not_false_eq_true, true_implies, false_implies, implies_true, Nat.reduceEqDiff, Nat.reduceAdd, Nat.reduceLeDiff, Nat.reduceSub, reduceCtorEq, reduceIte, b96_0, h00, em] at this ⊢
      exact this
    · have := go (5 * k + 1) (by omega)
      simp only [lv_args, z_v, z_lg, z_h, z_u, z_u1, z_c, z_ct, z_sk, sbne, lst1_d, ldel, lst2_d, ldel2, z_sw, z_rok, zi, eq_self, List.map_cons, List.map_nil, List.append_nil, List.nil_append, List.cons_append, Int32.reduceLT, Int32.reduceLE, Int32.reduceAdd, Int32.reduceSub, Int32.reduceMul, Int32.reduceToInt, Int32.reduceToNatClampNeg, Int.reduceLT, Int.reduceLE, Int.reduceNeg, true_and, and_true, or_self, or_false, false_or, false_and, and_false, true_or, or_true, if_true, if_false, ne_eq, Classical.not_not, not_true_eq_false, not_false_eq_true, true_implies, false_implies, implies_true, Nat.reduceEqDiff, Nat.reduceAdd, Nat.reduceLeDiff, Nat.reduceSub, reduceCtorEq, reduceIte, b96_0, h00, em] at this ⊢
      exact this
  · have y1 : cpR 30 = 15100 := rfl
    have y2 : cpR 31 = 15100 := rfl
    have y3 : cpR 32 = 24100 := rfl
    have kp : hK h 29 = 7 := s.1 29 (by decide)
    have l1 := (c.2.2.2.2 30 (by decide))
    have l2 := (c.2.2.2.2 31 (by decide))
    -- behind the number
    have go : ∀ m : Nat, m = 5 * min k 1500 + 1 → aWP d 96 12 [(2, .int (nI m)), (0, .ref 29), (1, .int (nI k))] [] h Q := by
      intro m hm
      have hm2 : m ≤ 7501 := by omega
      have lL : ∀ {f : Nat}, f ≠ 29 → ∀ z ∈ [((2 : Nat), Value.int (nI m)), (0, Value.ref 29), (1, Value.int (nI k))], ∀ q, z.2 = .ref q → q ≠ f ∧ q < 130 := fun {f} hf z hz q e => by
        simp only [List.mem_cons, List.not_mem_nil, or_false] at hz
        rcases hz with rfl | rfl | rfl
        · cases e
        · injection e with e
          subst e
          exact ⟨Ne.symm hf, by decide⟩
        · cases e
      obtain ⟨g1, _⟩ := gro_I s (a := 30) (by decide) m
      have n1 := (rmI_r h 30 m (by have := s.2.2; omega)).2.2.2.2.2.2.2.2.1
      have r1 : RmW (rmI h 30 m) := gro_rmw g1 (rmw_of c.2.2) (by decide) (by rw [n1]; split <;> omega)
      have s1 := gro_sk g1 s
      have v1 := gro_vy g1 c.2.1
      have n12 : hN (rmI h 30 m) 31 = hN h 31 := (g1.2.2.2.2.1 31 (by decide) (by decide)).2.2
      simp only [lv_args, z_v, z_lg, z_h, z_u, z_u1, z_c, z_ct, z_sk, sbne, lst1_d, ldel, lst2_d, ldel2, z_sw, z_rok, zi, eq_self, List.map_cons, List.map_nil, List.append_nil, List.nil_append, List.cons_append, Int32.reduceLT, Int32.reduceLE, Int32.reduceAdd, Int32.reduceSub, Int32.reduceMul, Int32.reduceToInt, Int32.reduceToNatClampNeg, Int.reduceLT, Int.reduceLE, Int.reduceNeg, true_and, and_true, or_self, or_false, false_or, false_and, and_false, true_or, or_true, if_true, if_false, ne_eq, Classical.not_not, not_true_eq_false, not_false_eq_true, true_implies, false_implies, implies_true, Nat.reduceEqDiff, Nat.reduceAdd, Nat.reduceLeDiff, Nat.reduceSub, reduceCtorEq, reduceIte, b96_0, skX s, srX s]
      refine grw_I (st := []) mm_96 dX6_begin_18 ml_6_46 dX6_begin_21 fl_6_9 rfl (by unfold finOK; decide +kernel) (by omega) s c.2.1 c.2.2 kp (by decide) (s.2.1 29 0 rfl) (s.1 30 (by decide)) (by decide) (by decide) rt_pg.2.2.2.1 (lL (by decide)) (by omega) (by omega) ?_
      generalize rmI h 30 m = h1 at *
      obtain ⟨g2, _⟩ := gro_I s1 (a := 31) (by decide) m
      have n2 := (rmI_r h1 31 m (by have := s1.2.2; omega)).2.2.2.2.2.2.2.2.1
      have r2 : RmW (rmI h1 31 m) := gro_rmw g2 r1 (by decide) (by rw [n2, n12]; split <;> omega)
      have s2 := gro_sk g2 s1
      have v2 := gro_vy g2 v1
      have n21 : hN (rmI h1 31 m) 30 = hN h1 30 := (g2.2.2.2.2.1 30 (by decide) (by decide)).2.2
      have o1 : ∀ a, a < 130 → a ≠ 30 → a ≠ 31 → hN (rmI h1 31 m) a = hN h a := fun a ha b1 b2 => (g2.2.2.2.2.1 a ha b2).2.2.trans (g1.2.2.2.2.1 a ha b1).2.2
      have c2 : CB (rmI h1 31 m) := ⟨s2, v2, rm_of r2 (by
        have a1 := o1 20
        have a2 := o1 21
        first
          | (rw [n21, n1, n2, n12, rm21.1])
          | (rw [a1 (by decide) (by decide) (by decide), a2 (by decide) (by decide) (by decide)]; exact rm21.1)) (by
        have a1 := o1 30
        have a2 := o1 31
        first
          | (rw [n21, n1, n2, n12, rm21.2])
          | (rw [a1 (by decide) (by decide) (by decide), a2 (by decide) (by decide) (by decide)]; exact rm21.2))⟩
      have m1 : m ≤ hN (rmI h1 31 m) 30 := by rw [n21, n1]; split <;> omega
      have kp1 : hK h1 29 = 7 := s1.1 29 (by decide)
      simp only [lv_args, z_v, z_lg, z_h, z_u, z_u1, z_c, z_ct, z_sk, sbne, lst1_d, ldel, lst2_d, ldel2, z_sw, z_rok, zi, eq_self, List.map_cons, List.map_nil, List.append_nil, List.nil_append, List.cons_append, Int32.reduceLT, Int32.reduceLE, Int32.reduceAdd, Int32.reduceSub, Int32.reduceMul, Int32.reduceToInt, Int32.reduceToNatClampNeg, Int.reduceLT, Int.reduceLE, Int.reduceNeg, true_and, and_true, or_self, or_false, false_or, false_and, and_false, true_or, or_true, if_true, if_false, ne_eq, Classical.not_not, not_true_eq_false, not_false_eq_true, true_implies, false_implies, implies_true, Nat.reduceEqDiff, Nat.reduceAdd, Nat.reduceLeDiff, Nat.reduceSub, reduceCtorEq, reduceIte, b96_24, skX s1, srX s1]
      refine grw_I2 (st := []) mm_96 dX6_begin_30 ml_6_46 dX6_begin_33 fl_6_15 rfl (by unfold finOK; decide +kernel) (by omega) s1 v1 (rmw_sb r1) kp1 (by decide) (s1.2.1 29 1 rfl) (s1.1 31 (by decide)) (by decide) (by decide) rt_pg.2.2.2.2.1 (lL (by decide)) (by omega) (by omega) ?_
      generalize rmI h1 31 m = h2 at *
      obtain ⟨c3, m3, g3, _⟩ := cb_J (n := 2 * k) c2 (r := 32) (by decide) (by omega) (by omega)
      have l3 := (c2.2.2.2.2 32 (by decide)).2
      have kp2 : hK h2 29 = 7 := s2.1 29 (by decide)
      simp only [lv_args, z_v, z_lg, z_h, z_u, z_u1, z_c, z_ct, z_sk, sbne, lst1_d, ldel, lst2_d, ldel2, z_sw, z_rok, zi, eq_self, List.map_cons, List.map_nil, List.append_nil, List.nil_append, List.cons_append, Int32.reduceLT, Int32.reduceLE, Int32.reduceAdd, Int32.reduceSub, Int32.reduceMul, Int32.reduceToInt, Int32.reduceToNatClampNeg, Int.reduceLT, Int.reduceLE, Int.reduceNeg, true_and, and_true, or_self, or_false, false_or, false_and, and_false, true_or, or_true, if_true, if_false, ne_eq, Classical.not_not, not_true_eq_false, not_false_eq_true, true_implies, false_implies, implies_true, Nat.reduceEqDiff, Nat.reduceAdd, Nat.reduceLeDiff, Nat.reduceSub, reduceCtorEq, reduceIte, b96_36, skX s2, srX s2, e2k]
      refine grw_J (st := []) mm_96 dX6_begin_44 ml_6_52 dX6_begin_47 fl_6_18 rfl (by unfold finOK; decide +kernel) (by omega) s2 c2.2.1 c2.2.2 kp2 (by decide) (s2.2.1 29 3 rfl) (s2.1 32 (by decide)) (by decide) (by decide) rt_pg.2.2.2.2.2.1 (lL (by decide)) (by omega) (by omega) ?_
      have n31 : hN (rmJ h2 32 (2 * k)) 30 = hN h2 30 := (g3.2.2.2.2.1 30 (by decide) (by decide)).2.2
      generalize rmJ h2 32 (2 * k) = h3 at *
      have s3 := c3.1
      have kp3 : hK h3 29 = 7 := s3.1 29 (by decide)
      have iE : hI h3 = hI h := g3.2.1.trans (g2.2.1.trans g1.2.1)
      simp only [lv_args, z_v, z_lg, z_h, z_u, z_u1, z_c, z_ct, z_sk, sbne, lst1_d, ldel, lst2_d, ldel2, z_sw, z_rok, zi, eq_self, List.map_cons, List.map_nil, List.append_nil, List.nil_append, List.cons_append, Int32.reduceLT, Int32.reduceLE, Int32.reduceAdd, Int32.reduceSub, Int32.reduceMul, Int32.reduceToInt, Int32.reduceToNatClampNeg, Int.reduceLT, Int.reduceLE, Int.reduceNeg, true_and, and_true, or_self, or_false, false_or, false_and, and_false, true_or, or_true, if_true, if_false, ne_eq, Classical.not_not, not_true_eq_false, not_false_eq_true, true_implies, false_implies, implies_true, Nat.reduceEqDiff, Nat.reduceAdd, Nat.reduceLeDiff, Nat.reduceSub, reduceCtorEq, reduceIte, b96_50, skX s3, kp3]
      refine hq _ (cb_i (cb_i (cb_i (cb_i (cb_i (cb_i (cb_i c3))))))) ?_ m3 ⟨rfl, rfl, rfl, rfl, rfl⟩ (g3.1.trans (g2.1.trans g1.1)) (g3.2.2.1.trans (g2.2.2.1.trans g1.2.2.1)) (fun a i ha => ?_) (fun a ha b1 b2 b3 => ?_)
      · show 5 * min k 1500 + 1 ≤ hN h3 30
        omega
      · refine Eq.trans ?_ (congrFun (congrFun iE a) i)
        show up2 (up2 (up2 (up2 (up2 (up2 (up2 (hI h3) 29 2 0) 29 4 0) 29 11 0) 29 12 0) 29 13 0) 29 14 0) 29 15 0 a i = hI h3 a i
        rw [up2_ne (fun e => ha e.1), up2_ne (fun e => ha e.1), up2_ne (fun e => ha e.1), up2_ne (fun e => ha e.1), up2_ne (fun e => ha e.1), up2_ne (fun e => ha e.1), up2_ne (fun e => ha e.1)]
      · have a1 := g1.2.2.2.2.1 a ha b1
        have a2 := g2.2.2.2.2.1 a ha b2
        have a3 := g3.2.2.2.2.1 a ha b3
        exact ⟨a3.1.trans (a2.1.trans a1.1), a3.2.1.trans (a2.2.1.trans a1.2.1), a3.2.2.trans (a2.2.2.trans a1.2.2)⟩
    unfold aEv
    simp only [lv_args, z_v, z_lg, z_h, z_u, z_u1, z_c, z_ct, z_sk, sbne, lst1_d, ldel, lst2_d, ldel2, z_sw, z_rok, zi, eq_self, List.map_cons, List.map_nil, List.append_nil, List.nil_append, List.cons_append, Int32.reduceLT, Int32.reduceLE, Int32.reduceAdd, Int32.reduceSub, Int32.reduceMul, Int32.reduceToInt, Int32.reduceToNatClampNeg, Int.reduceLT, Int.reduceLE, Int.reduceNeg, true_and, and_true, or_self, or_false, false_or, false_and, and_false, true_or, or_true, if_true, if_false, ne_eq, Classical.not_not, not_true_eq_false, not_false_eq_true, true_implies, false_implies, implies_true, Nat.reduceEqDiff, Nat.reduceAdd, Nat.reduceLeDiff, Nat.reduceSub, reduceCtorEq, reduceIte, b96_0, h00, e285, z15, Nat.reduceLT]
    simp (disch := omega) only [nI_ltN]
    refine ⟨fun cm => ?_, fun cm => ?_⟩
    · have := go (5 * 1500 + 1) (by omega)
      simp only [lv_args, z_v, z_lg, z_h, z_u, z_u1, z_c, z_ct, z_sk, sbne, lst1_d, ldel, lst2_d, ldel2, z_sw, z_rok, zi, eq_self, List.map_cons, List.map_nil, List.append_nil, List.nil_append, List.cons_append, Int32.reduceLT, Int32.reduceLE, Int32.reduceAdd, Int32.reduceSub, Int32.reduceMul, Int32.reduceToInt, Int32.reduceToNatClampNeg, Int.reduceLT, Int.reduceLE, Int.reduceNeg, true_and, and_true, or_self, or_false, false_or, false_and, and_false, true_or, or_true, if_true, if_false, ne_eq, Classical.not_not, not_true_eq_false, not_false_eq_true, true_implies, false_implies, implies_true, Nat.reduceEqDiff, Nat.reduceAdd, Nat.reduceLeDiff, Nat.reduceSub, reduceCtorEq, reduceIte, b96_0, h00, em] at this ⊢
      exact this
    · have := go (5 * k + 1) (by omega)
      simp only [lv_args, z_v, z_lg, z_h, z_u, z_u1, z_c, z_ct, z_sk, sbne, lst1_d, ldel, lst2_d, ldel2, z_sw, z_rok, zi, eq_self, List.map_cons, List.map_nil, List.append_nil, List.nil_append, List.cons_append, Int32.reduceLT, Int32.reduceLE, Int32.reduceAdd, Int32.reduceSub, Int32.reduceMul, Int32.reduceToInt, Int32.reduceToNatClampNeg, Int.reduceLT, Int.reduceLE, Int.reduceNeg, true_and, and_true, or_self, or_false, false_or, false_and, and_false, true_or, or_true, if_true, if_false, ne_eq, Classical.not_not, not_true_eq_false, not_false_eq_true, true_implies, false_implies, implies_true, Nat.reduceEqDiff, Nat.reduceAdd, Nat.reduceLeDiff, Nat.reduceSub, reduceCtorEq, reduceIte, b96_0, h00, em] at this ⊢
      exact this
end CBG
