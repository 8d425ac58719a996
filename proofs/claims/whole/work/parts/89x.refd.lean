/-! the reference's todo list and worked values -/
theorem rt_m : (∀ e, e ∈ RTl → e.2 = 122 → e.1 = (59, 47)) ∧ (∀ e, e ∈ RTl → e.2 = 123 → e.1 = (59, 48)) ∧ (∀ e, e ∈ RTl → e.2 = 124 → e.1 = (59, 49)) ∧ (∀ e, e ∈ RTl → e.2 = 125 → e.1 = (59, 51)) ∧ (∀ e, e ∈ RTl → e.2 = 121 → e.1 = (59, 43)) ∧ (∀ e, e ∈ RTl → e.2 = 119 → e.1 = (59, 40)) ∧ (∀ e, e ∈ RTl → e.2 = 120 → e.1 = (59, 41)) := by decide +kernel
section RED
variable {h h' : Hp} {Q : Option Value → Hp → Prop} {d : Nat} {G : PG} {q : Nat} {qv : Nat → Int64} {r n : Nat} {td : List TD}
theorem mxt_push {k : Nat} {n m : Int32} (t : MXt td h) (hl : td.length < hN h 122) (hk : k < 100) : MXt ((k, n, m) :: td) (pI (pA (pA (pA h 122 (upd (hA h 122) td.length (nI k))) 123 (upd (hA h 123) td.length n)) 124 (upd (hA h 124) td.length m)) 59 50 (nI (td.length + 1))) := by
  obtain ⟨t1, t2, t3, t4, t5⟩ := t
  refine ⟨rfl, ?_, t3, t4, fun j e q => ?_⟩
  · simp only [List.length_cons]
    exact hl
  · show (if j = td.length then _ else hA h 122 j) = _ ∧ (if j = td.length then _ else hA h 123 j) = _ ∧ (if j = td.length then _ else hA h 124 j) = _ ∧ _
    rw [List.reverse_cons] at q
    by_cases c : j < td.length
    · rw [List.getElem?_append_left (by simpa using c)] at q
      rw [if_neg (by omega), if_neg (by omega), if_neg (by omega)]
      exact t5 j e q
    · have hj : j = td.length := by
        have := g_lt q
        simp at this
        omega
      subst hj
      rw [List.getElem?_append_right (by simp)] at q
      simp at q
      subst q
      rw [if_pos rfl, if_pos rfl, if_pos rfl]
      exact ⟨rfl, rfl, rfl, hk⟩
/-- fields and rows of the todo list alone -/
theorem km_td {f1 f2 f3 : Nat → Int32} {v : Int32} : KMo h (pI (pA (pA (pA h 122 f1) 123 f2) 124 f3) 59 50 v) := ⟨fun _ _ q => q, fun _ q => q, fun _ _ _ _ _ q => q, fun _ _ _ q => q, fun _ _ q => q, fun _ _ _ _ _ q => q, rfl, rfl, rfl⟩
theorem td_tail {k : Nat} {n m : Int32} {h0 : Hp} (S : SM G q qv h) (hd : 1 < d) (kk : KMo h0 h) (t : MXt td h) (hl : td.length < hN h 122) (hk : k < 100) (hq : ∀ h', SM G q qv h' → KMo h0 h' → MXt ((k, n, m) :: td) h' → Q none h') : aWP d 263 48 [(0, .ref 59), (1, .int (nI k)), (2, .int n), (3, .int m)] [] h Q := by
  have s := S.1
  have t' := t
  obtain ⟨t1, t2, ⟨t3, t3b⟩, t4, t5⟩ := t
  simp only [lv_args, z_v, z_lg, z_h, z_u, z_u1, z_c, z_ct, z_sk, sbne, lst1_d, ldel, lst2_d, ldel2, z_sw, z_rok, zi, eq_self, List.map_cons, List.map_nil, List.append_nil, List.nil_append, List.cons_append, Int32.reduceLT, Int32.reduceLE, Int32.reduceAdd, Int32.reduceSub, Int32.reduceMul, Int32.reduceToInt, Int32.reduceToNatClampNeg, Int.reduceLT, Int.reduceLE, Int.reduceNeg, true_and, and_true, or_self, or_false, false_or, false_and, and_false, true_or, or_true, if_true, if_false, ne_eq, Classical.not_not, not_true_eq_false, not_false_eq_true, true_implies, false_implies, implies_true, Nat.reduceEqDiff, Nat.reduceAdd, Nat.reduceLeDiff, Nat.reduceSub, reduceCtorEq, reduceIte, b263_48, skM s, srM s, t1, nI_1]
  simp (disch := omega) only [nI_ti, nI_cl, le0N, ltNN, t3, t3b, true_and]
  refine ⟨hl, hl, hl, ?_⟩
  exact hq _ (sm_I (sm_A (by decide) (sm_A (by decide) (sm_A (by decide) S)))) (km_tr kk km_td) (mxt_push t' hl hk)
theorem sp_todo {k : Nat} {n m : Int32} (S : SM G q qv h) (hd : 6 < d) (t : MXt td h) (hb : td.length ≤ 44990) (hk : k < 100) (hq : ∀ h', SM G q qv h' → KMo h h' → MXt ((k, n, m) :: td) h' → Q none h') : aEv d 263 [.ref 59, .int (nI k), .int n, .int m] h Q := by
  have s := S.1
  have t' := t
  obtain ⟨t1, t2, ⟨t3, t3b⟩, t4, t5⟩ := t
  have lL : ∀ {f : Nat}, f ≠ 59 → ∀ z ∈ [((0 : Nat), Value.ref 59), (1, Value.int (nI k)), (2, .int n), (3, .int m)], ∀ q, z.2 = .ref q → q ≠ f ∧ q < 130 := fun {f} hf z hz q e => by
    simp only [List.mem_cons, List.not_mem_nil, or_false] at hz
    rcases hz with rfl | rfl | rfl | rfl
    · injection e with e
      subst e
      exact ⟨Ne.symm hf, by decide⟩
    all_goals cases e
  unfold aEv
  simp only [lv_args, z_v, z_lg, z_h, z_u, z_u1, z_c, z_ct, z_sk, sbne, lst1_d, ldel, lst2_d, ldel2, z_sw, z_rok, zi, eq_self, List.map_cons, List.map_nil, List.append_nil, List.nil_append, List.cons_append, Int32.reduceLT, Int32.reduceLE, Int32.reduceAdd, Int32.reduceSub, Int32.reduceMul, Int32.reduceToInt, Int32.reduceToNatClampNeg, Int.reduceLT, Int.reduceLE, Int.reduceNeg, true_and, and_true, or_self, or_false, false_or, false_and, and_false, true_or, or_true, if_true, if_false, ne_eq, Classical.not_not, not_true_eq_false, not_false_eq_true, true_implies, false_implies, implies_true, Nat.reduceEqDiff, Nat.reduceAdd, Nat.reduceLeDiff, Nat.reduceSub, reduceCtorEq, reduceIte, b263_0, skM s, srM s, t1, Nat.reduceLeDiff]
  simp (disch := omega) only [nI_eqN]
  refine ⟨fun c => td_tail S (by omega) km_rf t' (by omega) hk hq, fun c => ?_⟩
  have step : ∀ {r : Nat} {h1 : Hp}, SM G q qv h1 → r = 122 ∨ r = 123 ∨ r = 124 → hN h1 r = td.length → Gro r (2 * hN h1 r) h1 (rmI h1 r (2 * hN h1 r)) ∧ SM G q qv (rmI h1 r (2 * hN h1 r)) ∧ KMo h1 (rmI h1 r (2 * hN h1 r)) ∧ (∀ i, i < hN h1 r → hA (rmI h1 r (2 * hN h1 r)) r i = hA h1 r i) ∧ hN (rmI h1 r (2 * hN h1 r)) r = 2 * td.length := fun {r h1} S1 hr hl => by
    obtain ⟨g1, g2⟩ := gro_I S1.1 (a := r) (by omega) (2 * hN h1 r)
    have hr1 : r ∈ GLs := by rcases hr with rfl | rfl | rfl <;> decide
    have hcp : cpR r = 90000 := by rcases hr with rfl | rfl | rfl <;> rfl
    have h16 := (S1.2.2.1.2.2 r hr1).1
    have h130 := S1.1.2.2
    have e := (rmI_r h1 r (2 * hN h1 r) (by omega)).2.2.2.2.2.2.2.2.1
    rw [if_neg (by omega), Nat.max_self, hl] at e
    refine ⟨g1, sm_gro g1 S1 hr1 (by omega) ?_, km_gro g1 hr, g2, by rw [hl]; exact e⟩
    rw [hl, e, hcp]
    omega
  obtain ⟨g1, S1, k1, c1, e1⟩ := step S (Or.inl rfl) (r := 122) (by omega)
  have n123 : hN (rmI h 122 (2 * hN h 122)) 123 = td.length := by rw [(g1.2.2.2.2.1 123 (by decide) (by decide)).2.2]; omega
  obtain ⟨g2, S2, k2, c2, e2⟩ := step S1 (Or.inr (Or.inl rfl)) (r := 123) n123
  have n124 : hN (rmI (rmI h 122 (2 * hN h 122)) 123 (2 * hN (rmI h 122 (2 * hN h 122)) 123)) 124 = td.length := by rw [(g2.2.2.2.2.1 124 (by decide) (by decide)).2.2, (g1.2.2.2.2.1 124 (by decide) (by decide)).2.2]; omega
  obtain ⟨g3, S3, k3, c3, e3⟩ := step S2 (Or.inr (Or.inr rfl)) (r := 124) n124
  have z2 : (2 : Int32) = nI 2 := rfl
  have s1 := S1.1
  have s2 := S2.1
  simp only [lv_args, z_v, z_lg, z_h, z_u, z_u1, z_c, z_ct, z_sk, sbne, lst1_d, ldel, lst2_d, ldel2, z_sw, z_rok, zi, eq_self, List.map_cons, List.map_nil, List.append_nil, List.nil_append, List.cons_append, Int32.reduceLT, Int32.reduceLE, Int32.reduceAdd, Int32.reduceSub, Int32.reduceMul, Int32.reduceToInt, Int32.reduceToNatClampNeg, Int.reduceLT, Int.reduceLE, Int.reduceNeg, true_and, and_true, or_self, or_false, false_or, false_and, and_false, true_or, or_true, if_true, if_false, ne_eq, Classical.not_not, not_true_eq_false, not_false_eq_true, true_implies, false_implies, implies_true, Nat.reduceEqDiff, Nat.reduceAdd, Nat.reduceLeDiff, Nat.reduceSub, reduceCtorEq, reduceIte, b263_12, skM s, srM s, z2]
  refine grow_L (st := []) mm_263 dX13_todo_18 ml_13_455 dX13_todo_21 fl_13_101 rfl (by unfold finOK; decide +kernel) (by omega) s S.2.1 S.2.2.1 (s.1 59 (by decide)) (by decide) (s.2.1 59 47 rfl) (s.1 122 (by decide)) (by decide) (by decide) rt_m.1 (lL (by decide)) (by decide) (by decide) ?_
  simp only [lv_args, z_v, z_lg, z_h, z_u, z_u1, z_c, z_ct, z_sk, sbne, lst1_d, ldel, lst2_d, ldel2, z_sw, z_rok, zi, eq_self, List.map_cons, List.map_nil, List.append_nil, List.nil_append, List.cons_append, Int32.reduceLT, Int32.reduceLE, Int32.reduceAdd, Int32.reduceSub, Int32.reduceMul, Int32.reduceToInt, Int32.reduceToNatClampNeg, Int.reduceLT, Int.reduceLE, Int.reduceNeg, true_and, and_true, or_self, or_false, false_or, false_and, and_false, true_or, or_true, if_true, if_false, ne_eq, Classical.not_not, not_true_eq_false, not_false_eq_true, true_implies, false_implies, implies_true, Nat.reduceEqDiff, Nat.reduceAdd, Nat.reduceLeDiff, Nat.reduceSub, reduceCtorEq, reduceIte, b263_24, skM s1, srM s1, z2]
  refine grow_L (st := []) mm_263 dX13_todo_30 ml_13_455 dX13_todo_33 fl_13_104 rfl (by unfold finOK; decide +kernel) (by omega) s1 S1.2.1 S1.2.2.1 (s1.1 59 (by decide)) (by decide) (s1.2.1 59 48 rfl) (s1.1 123 (by decide)) (by decide) (by decide) rt_m.2.1 (lL (by decide)) (by decide) (by decide) ?_
  simp only [lv_args, z_v, z_lg, z_h, z_u, z_u1, z_c, z_ct, z_sk, sbne, lst1_d, ldel, lst2_d, ldel2, z_sw, z_rok, zi, eq_self, List.map_cons, List.map_nil, List.append_nil, List.nil_append, List.cons_append, Int32.reduceLT, Int32.reduceLE, Int32.reduceAdd, Int32.reduceSub, Int32.reduceMul, Int32.reduceToInt, Int32.reduceToNatClampNeg, Int.reduceLT, Int.reduceLE, Int.reduceNeg, true_and, and_true, or_self, or_false, false_or, false_and, and_false, true_or, or_true, if_true, if_false, ne_eq, Classical.not_not, not_true_eq_false, not_false_eq_true, true_implies, false_implies, implies_true, Nat.reduceEqDiff, Nat.reduceAdd, Nat.reduceLeDiff, Nat.reduceSub, reduceCtorEq, reduceIte, b263_36, skM s2, srM s2, z2]
  refine grow_L (st := []) mm_263 dX13_todo_42 ml_13_455 dX13_todo_45 fl_13_107 rfl (by unfold finOK; decide +kernel) (by omega) s2 S2.2.1 S2.2.2.1 (s2.1 59 (by decide)) (by decide) (s2.2.1 59 49 rfl) (s2.1 124 (by decide)) (by decide) (by decide) rt_m.2.2.1 (lL (by decide)) (by decide) (by decide) ?_
  have tH : MXt td (rmI (rmI (rmI h 122 (2 * hN h 122)) 123 (2 * hN (rmI h 122 (2 * hN h 122)) 123)) 124 (2 * hN (rmI (rmI h 122 (2 * hN h 122)) 123 (2 * hN (rmI h 122 (2 * hN h 122)) 123)) 124)) ∧ td.length < hN (rmI (rmI (rmI h 122 (2 * hN h 122)) 123 (2 * hN (rmI h 122 (2 * hN h 122)) 123)) 124 (2 * hN (rmI (rmI h 122 (2 * hN h 122)) 123 (2 * hN (rmI h 122 (2 * hN h 122)) 123)) 124)) 122 := by
    have a122 := (g3.2.2.2.2.1 122 (by decide) (by decide))
    have b122 := (g2.2.2.2.2.1 122 (by decide) (by decide))
    have a123 := (g3.2.2.2.2.1 123 (by decide) (by decide))
    have d123 := (g1.2.2.2.2.1 123 (by decide) (by decide))
    have d124 := (g1.2.2.2.2.1 124 (by decide) (by decide))
    have f124 := (g2.2.2.2.2.1 124 (by decide) (by decide))
    have h16 := (S.2.2.1.2.2 122 (by decide)).1
    refine ⟨⟨by rw [g3.2.1, g2.2.1, g1.2.1]; exact t1, ?_, ⟨?_, ?_⟩, ?_, fun j e qe => ?_⟩, ?_⟩
    · rw [a122.2.2, b122.2.2, e1]; omega
    · rw [a123.2.2, a122.2.2, b122.2.2, e1, e2]
    · rw [a122.2.2, b122.2.2, e1, e3]
    · rw [a122.2.2, b122.2.2, e1]; omega
    · have hj := g_lt qe
      simp at hj
      rw [a122.1, b122.1, c1 j (by omega), a123.1, c2 j (by omega), d123.1, c3 j (by omega), f124.1, d124.1]
      exact t5 j e qe
    · rw [a122.2.2, b122.2.2, e1]; omega
  exact td_tail S3 (by omega) (km_tr k1 (km_tr k2 k3)) tH.1 tH.2 hk hq
/-- forms that stand one behind the other -/
theorem sp_forms {a : Nat} {b : List Nat} {c0 : Int32} {md : Option Nat} {nw : Int64} (S : SM G q qv h) (hd : 8 < d) (t : MXt td h) (hc : MXc md nw h) (hb : td.length ≤ 44990) (hch : Chn G c0 (a :: b)) (hq : ∀ h', SM G q qv h' → (∀ wk, MXw wk h → MXw wk h') → (∀ sl bs pr bx ps, MXb sl bs pr bx ps h → MXb sl bs pr bx ps h') → (∀ pa ce gr, MXs pa ce gr h → MXs pa ce gr h') → (∀ inp out, MXp inp out h → MXp inp out h') → (∀ th op st lt bu, MXd th op st lt bu h → MXd th op st lt bu h') → (hI h' 59 68 = hI h 59 68 ∧ hI h' 59 69 = hI h 59 69 ∧ hI h' 59 71 = hI h 59 71) → MXt (chs 0 (a :: b) td) h' → MXc (some a) nw h' → Q none h') : aEv d 207 [.ref 59, .int (nI a)] h Q := by
  have h0 : 0 < d := by omega
  have s := S.1
  have P := S.2.2.2.1
  have r17 := S.2.2.2.2.1
  obtain ⟨⟨k0, k1, k2, k4, k5, _⟩, r7, r8, r10, r11, _⟩ := prf s P.1
  obtain ⟨p1, p2, p3⟩ := pm_n P (j := 5) (by decide) (by decide) hch.2.1
  have fin : ∀ {h1 : Hp} {L : ALS}, SM G q qv h1 → KMo h h1 → MXt (chs 0 (a :: b) td) h1 → lgv L 0 = .ref 59 → lgv L 1 = .int (nI a) → aWP d 207 28 L [] h1 Q := fun {h1 L} S1 kk t1 l0 l1 => by
    have s1 := S1.1
    have c1 := kk.1 _ _ hc
    simp only [lv_args, z_v, z_lg, z_h, z_u, z_u1, z_c, z_ct, z_sk, sbne, lst1_d, ldel, lst2_d, ldel2, z_sw, z_rok, zi, eq_self, List.map_cons, List.map_nil, List.append_nil, List.nil_append, List.cons_append, Int32.reduceLT, Int32.reduceLE, Int32.reduceAdd, Int32.reduceSub, Int32.reduceMul, Int32.reduceToInt, Int32.reduceToNatClampNeg, Int.reduceLT, Int.reduceLE, Int.reduceNeg, true_and, and_true, or_self, or_false, false_or, false_and, and_false, true_or, or_true, if_true, if_false, ne_eq, Classical.not_not, not_true_eq_false, not_false_eq_true, true_implies, false_implies, implies_true, Nat.reduceEqDiff, Nat.reduceAdd, Nat.reduceLeDiff, Nat.reduceSub, reduceCtorEq, reduceIte, b207_28, skM s1, h0, l0, l1, e206_59 _ _ s1]
    refine hq _ (sm_I (sm_I S1)) (fun _ q => kk.2.1 _ q) (fun _ _ _ _ _ q => kk.2.2.1 _ _ _ _ _ q) (fun _ _ _ q => kk.2.2.2.1 _ _ _ q) (fun _ _ q => kk.2.2.2.2.1 _ _ q) (fun _ _ _ _ _ q => kk.2.2.2.2.2.1 _ _ _ _ _ q) kk.2.2.2.2.2.2 t1 ⟨c1.1, Or.inl ⟨a, rfl, rfl, rfl⟩⟩
  unfold aEv
  simp only [lv_args, z_v, z_lg, z_h, z_u, z_u1, z_c, z_ct, z_sk, sbne, lst1_d, ldel, lst2_d, ldel2, z_sw, z_rok, zi, eq_self, List.map_cons, List.map_nil, List.append_nil, List.nil_append, List.cons_append, Int32.reduceLT, Int32.reduceLE, Int32.reduceAdd, Int32.reduceSub, Int32.reduceMul, Int32.reduceToInt, Int32.reduceToNatClampNeg, Int.reduceLT, Int.reduceLE, Int.reduceNeg, true_and, and_true, or_self, or_false, false_or, false_and, and_false, true_or, or_true, if_true, if_false, ne_eq, Classical.not_not, not_true_eq_false, not_false_eq_true, true_implies, false_implies, implies_true, Nat.reduceEqDiff, Nat.reduceAdd, Nat.reduceLeDiff, Nat.reduceSub, reduceCtorEq, reduceIte, b207_0, skM s, r17, k0, r11, k5]
  simp (disch := omega) only [nI_ti, nI_cl, le0N, ltNN, p1, p2, true_and]
  refine ⟨p3, ?_⟩
  have hn : G.1 (20 + 5) a = G.1 25 a := rfl
  rw [hn]
  cases b with
  | nil =>
    have e : G.1 25 a = -1 := hch.2.2
    rw [e]
    try simp only [lv_args, z_v, z_lg, z_h, z_u, z_u1, z_c, z_ct, z_sk, sbne, lst1_d, ldel, lst2_d, ldel2, z_sw, z_rok, zi, eq_self, List.map_cons, List.map_nil, List.append_nil, List.nil_append, List.cons_append, Int32.reduceLT, Int32.reduceLE, Int32.reduceAdd, Int32.reduceSub, Int32.reduceMul, Int32.reduceToInt, Int32.reduceToNatClampNeg, Int.reduceLT, Int.reduceLE, Int.reduceNeg, true_and, and_true, or_self, or_false, false_or, false_and, and_false, true_or, or_true, if_true, if_false, ne_eq, Classical.not_not, not_true_eq_false, not_false_eq_true, true_implies, false_implies, implies_true, Nat.reduceEqDiff, Nat.reduceAdd, Nat.reduceLeDiff, Nat.reduceSub, reduceCtorEq, reduceIte, b207_0]
    exact fin S km_rf t rfl rfl
  | cons b1 b =>
    have e : G.1 25 a = nI b1 := hch.2.2.1
    have hb1 : b1 < pNn G := hch.2.2.2.1
    have pn := P.2.2.1
    have ne : ¬ nI b1 = -1 := fun c => by
      have := congrArg Int32.toInt c
      rw [nI_toInt (by omega)] at this
      have h2 : (-1 : Int32).toInt = -1 := by decide
      omega
    rw [e]
    try simp only [lv_args, z_v, z_lg, z_h, z_u, z_u1, z_c, z_ct, z_sk, sbne, lst1_d, ldel, lst2_d, ldel2, z_sw, z_rok, zi, eq_self, List.map_cons, List.map_nil, List.append_nil, List.nil_append, List.cons_append, Int32.reduceLT, Int32.reduceLE, Int32.reduceAdd, Int32.reduceSub, Int32.reduceMul, Int32.reduceToInt, Int32.reduceToNatClampNeg, Int.reduceLT, Int.reduceLE, Int.reduceNeg, true_and, and_true, or_self, or_false, false_or, false_and, and_false, true_or, or_true, if_true, if_false, ne_eq, Classical.not_not, not_true_eq_false, not_false_eq_true, true_implies, false_implies, implies_true, Nat.reduceEqDiff, Nat.reduceAdd, Nat.reduceLeDiff, Nat.reduceSub, reduceCtorEq, reduceIte, b207_0]
    refine ⟨fun c => absurd c ne, fun _ => ?_⟩
    have p2' : hA h (q + 5) a = nI b1 := p2.trans e
    have z0 : (0 : Int32) = nI 0 := rfl
    simp only [lv_args, z_v, z_lg, z_h, z_u, z_u1, z_c, z_ct, z_sk, sbne, lst1_d, ldel, lst2_d, ldel2, z_sw, z_rok, zi, eq_self, List.map_cons, List.map_nil, List.append_nil, List.nil_append, List.cons_append, Int32.reduceLT, Int32.reduceLE, Int32.reduceAdd, Int32.reduceSub, Int32.reduceMul, Int32.reduceToInt, Int32.reduceToNatClampNeg, Int.reduceLT, Int.reduceLE, Int.reduceNeg, true_and, and_true, or_self, or_false, false_or, false_and, and_false, true_or, or_true, if_true, if_false, ne_eq, Classical.not_not, not_true_eq_false, not_false_eq_true, true_implies, false_implies, implies_true, Nat.reduceEqDiff, Nat.reduceAdd, Nat.reduceLeDiff, Nat.reduceSub, reduceCtorEq, reduceIte, b207_13, skM s, r17, k0, r11, k5, h0]
    simp (disch := omega) only [nI_ti, nI_cl, le0N, ltNN, p1, p2', true_and]
    refine ⟨p3, ?_⟩
    try simp only [lv_args, z_v, z_lg, z_h, z_u, z_u1, z_c, z_ct, z_sk, sbne, lst1_d, ldel, lst2_d, ldel2, z_sw, z_rok, zi, eq_self, List.map_cons, List.map_nil, List.append_nil, List.nil_append, List.cons_append, Int32.reduceLT, Int32.reduceLE, Int32.reduceAdd, Int32.reduceSub, Int32.reduceMul, Int32.reduceToInt, Int32.reduceToNatClampNeg, Int.reduceLT, Int.reduceLE, Int.reduceNeg, true_and, and_true, or_self, or_false, false_or, false_and, and_false, true_or, or_true, if_true, if_false, ne_eq, Classical.not_not, not_true_eq_false, not_false_eq_true, true_implies, false_implies, implies_true, Nat.reduceEqDiff, Nat.reduceAdd, Nat.reduceLeDiff, Nat.reduceSub, reduceCtorEq, reduceIte, b207_13, skM s, h0]
    refine sp_todo (k := 0) S (by omega) t hb (by decide) fun h' S' kk t' => ?_
    simp only [lv_args, z_v, z_lg, z_h, z_u, z_u1, z_c, z_ct, z_sk, sbne, lst1_d, ldel, lst2_d, ldel2, z_sw, z_rok, zi, eq_self, List.map_cons, List.map_nil, List.append_nil, List.nil_append, List.cons_append, Int32.reduceLT, Int32.reduceLE, Int32.reduceAdd, Int32.reduceSub, Int32.reduceMul, Int32.reduceToInt, Int32.reduceToNatClampNeg, Int.reduceLT, Int.reduceLE, Int.reduceNeg, true_and, and_true, or_self, or_false, false_or, false_and, and_false, true_or, or_true, if_true, if_false, ne_eq, Classical.not_not, not_true_eq_false, not_false_eq_true, true_implies, false_implies, implies_true, Nat.reduceEqDiff, Nat.reduceAdd, Nat.reduceLeDiff, Nat.reduceSub, reduceCtorEq, reduceIte, b207_13, skM s, Nat.reduceLT]
    exact fin S' kk t' rfl rfl
end RED
