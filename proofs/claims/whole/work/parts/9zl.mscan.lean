/-! BUILD. The reference: signs and blanks of the text -/
theorem rb_lo : ∀ c, c < 128 → rb c = nI c := by decide +kernel
theorem rb_hi : ∀ c, c < 256 → 128 ≤ c → rb c < 0 := by decide +kernel
theorem rb_eq {c k : Nat} (hc : c < 256) (hk : k < 128) : (rb c = nI k) = (c = k) := by
  by_cases c1 : c < 128
  · rw [rb_lo c c1, nI_eqN (by omega) (by omega)]
  · refine propext ⟨fun e => ?_, fun e => by omega⟩
    have h1 := rb_hi c hc (by omega)
    rw [e] at h1
    have := nI_toInt (n := k) (by omega)
    have h2 := Int32.lt_iff_toInt_lt.mp h1
    rw [this] at h2
    have h3 : (0 : Int32).toInt = 0 := by decide
    omega
theorem rb_d : ∀ c, c < 256 → (decide (¬ rb c < 48) && decide (¬ 57 < rb c)) = isD c := by decide +kernel
theorem rb_w : ∀ c, c < 256 → (decide (¬ rb c < 97) && decide (rb c ≤ 122)) = (97 ≤ c && c ≤ 122) := by decide +kernel
theorem rb_s : ∀ c, c < 256 → swL [(33, 120), (35, 120), (42, 120), (43, 120), (45, 120), (47, 120), (60, 120), (61, 120), (62, 120), (63, 120), (95, 120)] (rb c) 122 = if [43, 45, 42, 47, 60, 62, 61, 33, 63, 95, 35].contains c then 120 else 122 := by decide +kernel
/-- the reference reads the text t of length n -/
def TX (t : Nat → Nat) (n : Nat) (h : Hp) : Prop := hI h 59 5 = nI n ∧ n ≤ 3000 ∧ (∀ j, j < n → hA h 61 j = rb (t j)) ∧ ∀ j, t j < 256
/-- from p the tokens are those from p' -/
def Bl (t : Nat → Nat) (n p p' : Nat) : Prop := ∀ K mt T K' mt', (∃ f, Scn t n f p' K mt T K' mt') → ∃ f, Scn t n f p K mt T K' mt'
section MSC
variable {h h' h0 : Hp} {Q : Option Value → Hp → Prop} {d n : Nat} {t : Nat → Nat}
theorem sp_isDm {c : Nat} (hc : c < 256) (hq : Q (some (.int (bI (isD c)))) h) : aEv d 220 [.int (rb c)] h Q := by
  have key := rb_d c hc
  have eb0 : bI false = 0 := rfl
  have eb1 : bI true = 1 := rfl
  rw [← key] at hq
  unfold aEv
  simp only [lv_args, z_v, z_lg, z_h, z_u, z_u1, z_c, z_ct, z_sk, sbne, lst1_d, ldel, lst2_d, ldel2, z_sw, z_rok, zi, eq_self, List.map_cons, List.map_nil, List.append_nil, List.nil_append, List.cons_append, Int32.reduceLT, Int32.reduceLE, Int32.reduceAdd, Int32.reduceSub, Int32.reduceMul, Int32.reduceToInt, Int32.reduceToNatClampNeg, Int.reduceLT, Int.reduceLE, Int.reduceNeg, true_and, and_true, or_self, or_false, false_or, false_and, and_false, true_or, or_true, if_true, if_false, ne_eq, Classical.not_not, not_true_eq_false, not_false_eq_true, true_implies, false_implies, implies_true, Nat.reduceEqDiff, Nat.reduceAdd, Nat.reduceLeDiff, Nat.reduceSub, reduceCtorEq, reduceIte, b220_0]
  refine ⟨fun c1 => ?_, fun c1 => ?_⟩
  · have e : (decide (¬ rb c < 48) && decide (¬ 57 < rb c)) = false := by rw [decide_eq_false (fun w => w c1)]; rfl
    rw [e, eb0] at hq
    simp only [lv_args, z_v, z_lg, z_h, z_u, z_u1, z_c, z_ct, z_sk, sbne, lst1_d, ldel, lst2_d, ldel2, z_sw, z_rok, zi, eq_self, List.map_cons, List.map_nil, List.append_nil, List.nil_append, List.cons_append, Int32.reduceLT, Int32.reduceLE, Int32.reduceAdd, Int32.reduceSub, Int32.reduceMul, Int32.reduceToInt, Int32.reduceToNatClampNeg, Int.reduceLT, Int.reduceLE, Int.reduceNeg, true_and, and_true, or_self, or_false, false_or, false_and, and_false, true_or, or_true, if_true, if_false, ne_eq, Classical.not_not, not_true_eq_false, not_false_eq_true, true_implies, false_implies, implies_true, Nat.reduceEqDiff, Nat.reduceAdd, Nat.reduceLeDiff, Nat.reduceSub, reduceCtorEq, reduceIte, b220_16, b220_17]
    exact hq
  · simp only [lv_args, z_v, z_lg, z_h, z_u, z_u1, z_c, z_ct, z_sk, sbne, lst1_d, ldel, lst2_d, ldel2, z_sw, z_rok, zi, eq_self, List.map_cons, List.map_nil, List.append_nil, List.nil_append, List.cons_append, Int32.reduceLT, Int32.reduceLE, Int32.reduceAdd, Int32.reduceSub, Int32.reduceMul, Int32.reduceToInt, Int32.reduceToNatClampNeg, Int.reduceLT, Int.reduceLE, Int.reduceNeg, true_and, and_true, or_self, or_false, false_or, false_and, and_false, true_or, or_true, if_true, if_false, ne_eq, Classical.not_not, not_true_eq_false, not_false_eq_true, true_implies, false_implies, implies_true, Nat.reduceEqDiff, Nat.reduceAdd, Nat.reduceLeDiff, Nat.reduceSub, reduceCtorEq, reduceIte, b220_6]
    refine ⟨fun c2 => ?_, fun c2 => ?_⟩
    · have e : (decide (¬ rb c < 48) && decide (¬ 57 < rb c)) = false := by rw [show decide (¬ 57 < rb c) = false from decide_eq_false (fun w => w c2), Bool.and_false]
      rw [e, eb0] at hq
      simp only [lv_args, z_v, z_lg, z_h, z_u, z_u1, z_c, z_ct, z_sk, sbne, lst1_d, ldel, lst2_d, ldel2, z_sw, z_rok, zi, eq_self, List.map_cons, List.map_nil, List.append_nil, List.nil_append, List.cons_append, Int32.reduceLT, Int32.reduceLE, Int32.reduceAdd, Int32.reduceSub, Int32.reduceMul, Int32.reduceToInt, Int32.reduceToNatClampNeg, Int.reduceLT, Int.reduceLE, Int.reduceNeg, true_and, and_true, or_self, or_false, false_or, false_and, and_false, true_or, or_true, if_true, if_false, ne_eq, Classical.not_not, not_true_eq_false, not_false_eq_true, true_implies, false_implies, implies_true, Nat.reduceEqDiff, Nat.reduceAdd, Nat.reduceLeDiff, Nat.reduceSub, reduceCtorEq, reduceIte, b220_16, b220_17]
      exact hq
    · have e : (decide (¬ rb c < 48) && decide (¬ 57 < rb c)) = true := by rw [decide_eq_true c1, decide_eq_true c2]; rfl
      rw [e, eb1] at hq
      simp only [lv_args, z_v, z_lg, z_h, z_u, z_u1, z_c, z_ct, z_sk, sbne, lst1_d, ldel, lst2_d, ldel2, z_sw, z_rok, zi, eq_self, List.map_cons, List.map_nil, List.append_nil, List.nil_append, List.cons_append, Int32.reduceLT, Int32.reduceLE, Int32.reduceAdd, Int32.reduceSub, Int32.reduceMul, Int32.reduceToInt, Int32.reduceToNatClampNeg, Int.reduceLT, Int.reduceLE, Int.reduceNeg, true_and, and_true, or_self, or_false, false_or, false_and, and_false, true_or, or_true, if_true, if_false, ne_eq, Classical.not_not, not_true_eq_false, not_false_eq_true, true_implies, false_implies, implies_true, Nat.reduceEqDiff, Nat.reduceAdd, Nat.reduceLeDiff, Nat.reduceSub, reduceCtorEq, reduceIte, b220_12, b220_17]
      exact hq
theorem sp_isWm {c : Nat} (hc : c < 256) (hd : 0 < d) (hq : Q (some (.int (bI (isW c)))) h) : aEv d 224 [.int (rb c)] h Q := by
  have key := rb_w c hc
  have ks := rb_s c hc
  have eb0 : bI false = 0 := rfl
  have eb1 : bI true = 1 := rfl
  have z10 : ¬ (1 : Int32) = 0 := by decide
  have yes : isW c = true → aWP d 224 19 [(0, .int (rb c))] [] h Q := fun e => by
    rw [e, eb1] at hq
    simp only [lv_args, z_v, z_lg, z_h, z_u, z_u1, z_c, z_ct, z_sk, sbne, lst1_d, ldel, lst2_d, ldel2, z_sw, z_rok, zi, eq_self, List.map_cons, List.map_nil, List.append_nil, List.nil_append, List.cons_append, Int32.reduceLT, Int32.reduceLE, Int32.reduceAdd, Int32.reduceSub, Int32.reduceMul, Int32.reduceToInt, Int32.reduceToNatClampNeg, Int.reduceLT, Int.reduceLE, Int.reduceNeg, true_and, and_true, or_self, or_false, false_or, false_and, and_false, true_or, or_true, if_true, if_false, ne_eq, Classical.not_not, not_true_eq_false, not_false_eq_true, true_implies, false_implies, implies_true, Nat.reduceEqDiff, Nat.reduceAdd, Nat.reduceLeDiff, Nat.reduceSub, reduceCtorEq, reduceIte, b224_19]
    exact hq
  have tail : (97 ≤ c && c ≤ 122) = false → aWP d 224 12 [(0, .int (rb c))] [] h Q := fun hn => by
    simp only [lv_args, z_v, z_lg, z_h, z_u, z_u1, z_c, z_ct, z_sk, sbne, lst1_d, ldel, lst2_d, ldel2, z_sw, z_rok, zi, eq_self, List.map_cons, List.map_nil, List.append_nil, List.nil_append, List.cons_append, Int32.reduceLT, Int32.reduceLE, Int32.reduceAdd, Int32.reduceSub, Int32.reduceMul, Int32.reduceToInt, Int32.reduceToNatClampNeg, Int.reduceLT, Int.reduceLE, Int.reduceNeg, true_and, and_true, or_self, or_false, false_or, false_and, and_false, true_or, or_true, if_true, if_false, ne_eq, Classical.not_not, not_true_eq_false, not_false_eq_true, true_implies, false_implies, implies_true, Nat.reduceEqDiff, Nat.reduceAdd, Nat.reduceLeDiff, Nat.reduceSub, reduceCtorEq, reduceIte, b224_12, hd]
    refine sp_isDm hc ?_
    by_cases e : isD c = true
    · rw [e, eb1]
      simp only [lv_args, z_v, z_lg, z_h, z_u, z_u1, z_c, z_ct, z_sk, sbne, lst1_d, ldel, lst2_d, ldel2, z_sw, z_rok, zi, eq_self, List.map_cons, List.map_nil, List.append_nil, List.nil_append, List.cons_append, Int32.reduceLT, Int32.reduceLE, Int32.reduceAdd, Int32.reduceSub, Int32.reduceMul, Int32.reduceToInt, Int32.reduceToNatClampNeg, Int.reduceLT, Int.reduceLE, Int.reduceNeg, true_and, and_true, or_self, or_false, false_or, false_and, and_false, true_or, or_true, if_true, if_false, ne_eq, Classical.not_not, not_true_eq_false, not_false_eq_true, true_implies, false_implies, implies_true, Nat.reduceEqDiff, Nat.reduceAdd, Nat.reduceLeDiff, Nat.reduceSub, reduceCtorEq, reduceIte, b224_12, z10, Nat.reduceLT]
      exact yes (by unfold isW; rw [e]; simp)
    · have e : isD c = false := by simpa using e
      rw [e, eb0]
      simp only [lv_args, z_v, z_lg, z_h, z_u, z_u1, z_c, z_ct, z_sk, sbne, lst1_d, ldel, lst2_d, ldel2, z_sw, z_rok, zi, eq_self, List.map_cons, List.map_nil, List.append_nil, List.nil_append, List.cons_append, Int32.reduceLT, Int32.reduceLE, Int32.reduceAdd, Int32.reduceSub, Int32.reduceMul, Int32.reduceToInt, Int32.reduceToNatClampNeg, Int.reduceLT, Int.reduceLE, Int.reduceNeg, true_and, and_true, or_self, or_false, false_or, false_and, and_false, true_or, or_true, if_true, if_false, ne_eq, Classical.not_not, not_true_eq_false, not_false_eq_true, true_implies, false_implies, implies_true, Nat.reduceEqDiff, Nat.reduceAdd, Nat.reduceLeDiff, Nat.reduceSub, reduceCtorEq, reduceIte, b224_12, Nat.reduceLT]
      simp only [lv_args, z_v, z_lg, z_h, z_u, z_u1, z_c, z_ct, z_sk, sbne, lst1_d, ldel, lst2_d, ldel2, z_rok, zi, eq_self, List.map_cons, List.map_nil, List.append_nil, List.nil_append, List.cons_append, Int32.reduceLT, Int32.reduceLE, Int32.reduceAdd, Int32.reduceSub, Int32.reduceMul, Int32.reduceToInt, Int32.reduceToNatClampNeg, Int.reduceLT, Int.reduceLE, Int.reduceNeg, true_and, and_true, or_self, or_false, false_or, false_and, and_false, true_or, or_true, if_true, if_false, ne_eq, Classical.not_not, not_true_eq_false, not_false_eq_true, true_implies, false_implies, implies_true, Nat.reduceEqDiff, Nat.reduceAdd, Nat.reduceLeDiff, Nat.reduceSub, reduceCtorEq, reduceIte, b224_21]
      refine sw_at ?_
      rw [ks]
      cases e5 : [43, 45, 42, 47, 60, 62, 61, 33, 63, 95, 35].contains c
      · have ew : isW c = false := by unfold isW; rw [hn, e, e5]; rfl
        rw [ew, eb0] at hq
        show aWP d 224 122 _ _ _ _
        simp only [lv_args, z_v, z_lg, z_h, z_u, z_u1, z_c, z_ct, z_sk, sbne, lst1_d, ldel, lst2_d, ldel2, z_sw, z_rok, zi, eq_self, List.map_cons, List.map_nil, List.append_nil, List.nil_append, List.cons_append, Int32.reduceLT, Int32.reduceLE, Int32.reduceAdd, Int32.reduceSub, Int32.reduceMul, Int32.reduceToInt, Int32.reduceToNatClampNeg, Int.reduceLT, Int.reduceLE, Int.reduceNeg, true_and, and_true, or_self, or_false, false_or, false_and, and_false, true_or, or_true, if_true, if_false, ne_eq, Classical.not_not, not_true_eq_false, not_false_eq_true, true_implies, false_implies, implies_true, Nat.reduceEqDiff, Nat.reduceAdd, Nat.reduceLeDiff, Nat.reduceSub, reduceCtorEq, reduceIte, b224_122]
        exact hq
      · have ew : isW c = true := by unfold isW; rw [hn, e, e5]; rfl
        rw [ew, eb1] at hq
        show aWP d 224 120 _ _ _ _
        simp only [lv_args, z_v, z_lg, z_h, z_u, z_u1, z_c, z_ct, z_sk, sbne, lst1_d, ldel, lst2_d, ldel2, z_sw, z_rok, zi, eq_self, List.map_cons, List.map_nil, List.append_nil, List.nil_append, List.cons_append, Int32.reduceLT, Int32.reduceLE, Int32.reduceAdd, Int32.reduceSub, Int32.reduceMul, Int32.reduceToInt, Int32.reduceToNatClampNeg, Int.reduceLT, Int.reduceLE, Int.reduceNeg, true_and, and_true, or_self, or_false, false_or, false_and, and_false, true_or, or_true, if_true, if_false, ne_eq, Classical.not_not, not_true_eq_false, not_false_eq_true, true_implies, false_implies, implies_true, Nat.reduceEqDiff, Nat.reduceAdd, Nat.reduceLeDiff, Nat.reduceSub, reduceCtorEq, reduceIte, b224_120]
        exact hq
  unfold aEv
  simp only [lv_args, z_v, z_lg, z_h, z_u, z_u1, z_c, z_ct, z_sk, sbne, lst1_d, ldel, lst2_d, ldel2, z_sw, z_rok, zi, eq_self, List.map_cons, List.map_nil, List.append_nil, List.nil_append, List.cons_append, Int32.reduceLT, Int32.reduceLE, Int32.reduceAdd, Int32.reduceSub, Int32.reduceMul, Int32.reduceToInt, Int32.reduceToNatClampNeg, Int.reduceLT, Int.reduceLE, Int.reduceNeg, true_and, and_true, or_self, or_false, false_or, false_and, and_false, true_or, or_true, if_true, if_false, ne_eq, Classical.not_not, not_true_eq_false, not_false_eq_true, true_implies, false_implies, implies_true, Nat.reduceEqDiff, Nat.reduceAdd, Nat.reduceLeDiff, Nat.reduceSub, reduceCtorEq, reduceIte, b224_0]
  refine ⟨fun c1 => tail (by rw [← key, decide_eq_false (fun w => w c1)]; rfl), fun c1 => ?_⟩
  simp only [lv_args, z_v, z_lg, z_h, z_u, z_u1, z_c, z_ct, z_sk, sbne, lst1_d, ldel, lst2_d, ldel2, z_sw, z_rok, zi, eq_self, List.map_cons, List.map_nil, List.append_nil, List.nil_append, List.cons_append, Int32.reduceLT, Int32.reduceLE, Int32.reduceAdd, Int32.reduceSub, Int32.reduceMul, Int32.reduceToInt, Int32.reduceToNatClampNeg, Int.reduceLT, Int.reduceLE, Int.reduceNeg, true_and, and_true, or_self, or_false, false_or, false_and, and_false, true_or, or_true, if_true, if_false, ne_eq, Classical.not_not, not_true_eq_false, not_false_eq_true, true_implies, false_implies, implies_true, Nat.reduceEqDiff, Nat.reduceAdd, Nat.reduceLeDiff, Nat.reduceSub, reduceCtorEq, reduceIte, b224_6]
  refine ⟨fun c2 => yes ?_, fun c2 => tail (by rw [← key, decide_eq_false c2, Bool.and_false])⟩
  have e : (97 ≤ c && c ≤ 122) = true := by rw [← key, decide_eq_true c1, decide_eq_true c2]; rfl
  unfold isW
  rw [e]; simp
theorem bl_rf {p : Nat} : Bl t n p p := fun _ _ _ _ _ w => w
theorem bl_tr {a b c : Nat} (h1 : Bl t n a b) (h2 : Bl t n b c) : Bl t n a c := fun K mt T K' mt' w => h1 K mt T K' mt' (h2 K mt T K' mt' w)
theorem bl_b {p : Nat} (hp : p < n) (hb : bkC (t p)) : Bl t n p (p + 1) := fun K mt T K' mt' ⟨f, w⟩ => ⟨f + 1, Or.inr ⟨hp, Or.inl ⟨hb, w⟩⟩⟩
/-- a remark ends at j -/
theorem lne_at {p j : Nat} (hpj : p ≤ j) (hj : j ≤ n) (hno : ∀ i, p ≤ i → i < j → t i ≠ 10) (he : j = n ∨ t j = 10) : lne t n p = if j = n then n else j + 1 := by
  obtain ⟨m, rfl⟩ : ∃ m, j = p + m := ⟨j - p, by omega⟩
  clear hpj
  induction m generalizing p with
  | zero =>
    unfold lne
    by_cases c : p + 0 = n
    · rw [if_pos c, show n - p = 0 by omega]
      show p = n
      omega
    · have e10 : t p = 10 := he.elim (fun w => absurd w c) (fun w => w)
      obtain ⟨k, hk⟩ : ∃ k, n - p = k + 1 := ⟨n - p - 1, by omega⟩
      rw [if_neg c, hk]
      show (if p < n then _ else _) = _
      rw [if_pos (by omega), if_pos e10]
  | succ m ih =>
    have ih := ih (p := p + 1) (by omega) (fun i h1 h2 => hno i (by omega) (by omega)) (by rw [show p + 1 + m = p + (m + 1) by omega]; exact he)
    rw [show p + 1 + m = p + (m + 1) by omega] at ih
    rw [← ih]
    unfold lne
    obtain ⟨k, hk⟩ : ∃ k, n - p = k + 1 := ⟨n - p - 1, by omega⟩
    rw [hk, show n - (p + 1) = k by omega]
    show (if p < n then _ else _) = _
    rw [if_pos (by omega), if_neg (hno p (Nat.le_refl _) (by omega))]
theorem bl_c {p j : Nat} (hp : p < n) (h59 : t p = 59) (hpj : p ≤ j) (hj : j ≤ n) (hno : ∀ i, p ≤ i → i < j → t i ≠ 10) (he : j = n ∨ t j = 10) : Bl t n p j := fun K mt T K' mt' ⟨f, w⟩ => by
  have el := lne_at hpj hj hno he
  by_cases c : j = n
  · rw [if_pos c] at el
    refine ⟨f + 1, Or.inr ⟨hp, Or.inr (Or.inl ⟨h59, ?_⟩)⟩⟩
    rw [el]
    rw [c] at w
    exact w
  · rw [if_neg c] at el
    have e10 : t j = 10 := he.elim (fun w => absurd w c) (fun w => w)
    cases f with
    | zero => exact w.elim
    | succ f =>
      rcases w with ⟨h, _⟩ | ⟨_, w⟩
      · omega
      rcases w with ⟨_, w⟩ | ⟨h, _⟩ | ⟨h, _⟩ | ⟨h, _⟩ | ⟨h, _⟩ | ⟨h, _⟩ | ⟨h, _⟩ | ⟨h, _⟩
      · refine ⟨f + 1, Or.inr ⟨hp, Or.inr (Or.inl ⟨h59, ?_⟩)⟩⟩
        rw [el]; exact w
      · omega
      · exact absurd (Or.inr (Or.inl e10)) (w_ex h).1
      · exact absurd (Or.inr (Or.inl e10)) (w_ex h).1
      · omega
      · omega
      · omega
      · exact absurd (Or.inr (Or.inl e10)) h
theorem sp_blanks {p : Nat} (s : Sk h) (r : Rm h) (x : TX t n h) (hp : p ≤ n) (hd : 0 < d) (hq : ∀ p', Bl t n p p' → (p' = n ∨ (p' < n ∧ ¬ bkC (t p') ∧ t p' ≠ 59)) → p ≤ p' → p' ≤ n → Q (some (.int (nI p'))) h) : aEv d 189 [.ref 59, .int (nI p)] h Q := by
  obtain ⟨x1, x2, x3, x4⟩ := x
  have n61 : hN h 61 = 3000 := r.1.2 (61, 3000) (by decide)
  have z9 : (9 : Int32) = nI 9 := rfl
  have z10 : (10 : Int32) = nI 10 := rfl
  have z32 : (32 : Int32) = nI 32 := rfl
  have z59 : (59 : Int32) = nI 59 := rfl
  have loop : ∀ (r i : Nat), i + r = n → p ≤ i → Bl t n p i → aWP d 189 2 [(2, .int (nI i)), (0, .ref 59), (1, .int (nI p))] [] h Q := by
    intro r
    induction r using Nat.strongRecOn with
    | _ r ih =>
      intro i hi hpi hb
      by_cases c : i = n
      · have P := hq i hb (Or.inl c) hpi (by omega)
        simp only [lv_args, z_v, z_lg, z_h, z_u, z_u1, z_c, z_ct, z_sk, sbne, lst1_d, ldel, lst2_d, ldel2, z_sw, z_rok, zi, eq_self, List.map_cons, List.map_nil, List.append_nil, List.nil_append, List.cons_append, Int32.reduceLT, Int32.reduceLE, Int32.reduceAdd, Int32.reduceSub, Int32.reduceMul, Int32.reduceToInt, Int32.reduceToNatClampNeg, Int.reduceLT, Int.reduceLE, Int.reduceNeg, true_and, and_true, or_self, or_false, false_or, false_and, and_false, true_or, or_true, if_true, if_false, ne_eq, Classical.not_not, not_true_eq_false, not_false_eq_true, true_implies, false_implies, implies_true, Nat.reduceEqDiff, Nat.reduceAdd, Nat.reduceLeDiff, Nat.reduceSub, reduceCtorEq, reduceIte, b189_2, skM s, x1]
        simp (disch := omega) only [nI_leN]
        refine ⟨fun _ => ?_, fun c => absurd (by omega) c⟩
        simp only [lv_args, z_v, z_lg, z_h, z_u, z_u1, z_c, z_ct, z_sk, sbne, lst1_d, ldel, lst2_d, ldel2, z_sw, z_rok, zi, eq_self, List.map_cons, List.map_nil, List.append_nil, List.nil_append, List.cons_append, Int32.reduceLT, Int32.reduceLE, Int32.reduceAdd, Int32.reduceSub, Int32.reduceMul, Int32.reduceToInt, Int32.reduceToNatClampNeg, Int.reduceLT, Int.reduceLE, Int.reduceNeg, true_and, and_true, or_self, or_false, false_or, false_and, and_false, true_or, or_true, if_true, if_false, ne_eq, Classical.not_not, not_true_eq_false, not_false_eq_true, true_implies, false_implies, implies_true, Nat.reduceEqDiff, Nat.reduceAdd, Nat.reduceLeDiff, Nat.reduceSub, reduceCtorEq, reduceIte, b189_96]
        exact P
      · have hil : i < n := by omega
        have c2 : (i < 3000) = True := eq_true (by omega)
        have e3 := x3 i hil
        have h4 := x4 i
        have nx : ∀ j, i < j → j ≤ n → Bl t n i j → aWP d 189 2 [(2, .int (nI j)), (0, .ref 59), (1, .int (nI p))] [] h Q := fun j h1 h2 h3 => ih (n - j) (by omega) j (by omega) (by omega) (bl_tr hb h3)
        -- the line's end
        have inner : t i = 59 → ∀ (r j : Nat), j + r = n → i ≤ j → (∀ k, i ≤ k → k < j → t k ≠ 10) → aWP d 189 65 [(2, .int (nI j)), (0, .ref 59), (1, .int (nI p))] [] h Q := by
          intro h59 r
          induction r with
          | zero =>
            intro j hj hij hno
            have hj : j = n := hj
            have go := nx j (by omega) (by omega) (bl_c hil h59 hij (by omega) hno (Or.inl hj))
            simp only [lv_args, z_v, z_lg, z_h, z_u, z_u1, z_c, z_ct, z_sk, sbne, lst1_d, ldel, lst2_d, ldel2, z_sw, z_rok, zi, eq_self, List.map_cons, List.map_nil, List.append_nil, List.nil_append, List.cons_append, Int32.reduceLT, Int32.reduceLE, Int32.reduceAdd, Int32.reduceSub, Int32.reduceMul, Int32.reduceToInt, Int32.reduceToNatClampNeg, Int.reduceLT, Int.reduceLE, Int.reduceNeg, true_and, and_true, or_self, or_false, false_or, false_and, and_false, true_or, or_true, if_true, if_false, ne_eq, Classical.not_not, not_true_eq_false, not_false_eq_true, true_implies, false_implies, implies_true, Nat.reduceEqDiff, Nat.reduceAdd, Nat.reduceLeDiff, Nat.reduceSub, reduceCtorEq, reduceIte, b189_65, skM s, x1]
            simp (disch := omega) only [nI_leN]
            exact ⟨fun _ => go, fun c => absurd (by omega) c⟩
          | succ r ih2 =>
            intro j hj hij hno
            have c3 : (j < 3000) = True := eq_true (by omega)
            have e4 := x3 j (by omega)
            simp only [lv_args, z_v, z_lg, z_h, z_u, z_u1, z_c, z_ct, z_sk, sbne, lst1_d, ldel, lst2_d, ldel2, z_sw, z_rok, zi, eq_self, List.map_cons, List.map_nil, List.append_nil, List.nil_append, List.cons_append, Int32.reduceLT, Int32.reduceLE, Int32.reduceAdd, Int32.reduceSub, Int32.reduceMul, Int32.reduceToInt, Int32.reduceToNatClampNeg, Int.reduceLT, Int.reduceLE, Int.reduceNeg, true_and, and_true, or_self, or_false, false_or, false_and, and_false, true_or, or_true, if_true, if_false, ne_eq, Classical.not_not, not_true_eq_false, not_false_eq_true, true_implies, false_implies, implies_true, Nat.reduceEqDiff, Nat.reduceAdd, Nat.reduceLeDiff, Nat.reduceSub, reduceCtorEq, reduceIte, b189_65, skM s, x1]
            simp (disch := omega) only [nI_leN]
            refine ⟨fun c => absurd c (by omega), fun _ => ?_⟩
            simp only [lv_args, z_v, z_lg, z_h, z_u, z_u1, z_c, z_ct, z_sk, sbne, lst1_d, ldel, lst2_d, ldel2, z_sw, z_rok, zi, eq_self, List.map_cons, List.map_nil, List.append_nil, List.nil_append, List.cons_append, Int32.reduceLT, Int32.reduceLE, Int32.reduceAdd, Int32.reduceSub, Int32.reduceMul, Int32.reduceToInt, Int32.reduceToNatClampNeg, Int.reduceLT, Int.reduceLE, Int.reduceNeg, true_and, and_true, or_self, or_false, false_or, false_and, and_false, true_or, or_true, if_true, if_false, ne_eq, Classical.not_not, not_true_eq_false, not_false_eq_true, true_implies, false_implies, implies_true, Nat.reduceEqDiff, Nat.reduceAdd, Nat.reduceLeDiff, Nat.reduceSub, reduceCtorEq, reduceIte, b189_73, skM s, srM s, n61]
            simp (disch := omega) only [nI_ti, nI_cl, le0N, ltNN, c3, e4, true_and]
            try simp only [lv_args, z_v, z_lg, z_h, z_u, z_u1, z_c, z_ct, z_sk, sbne, lst1_d, ldel, lst2_d, ldel2, z_sw, z_rok, zi, eq_self, List.map_cons, List.map_nil, List.append_nil, List.nil_append, List.cons_append, Int32.reduceLT, Int32.reduceLE, Int32.reduceAdd, Int32.reduceSub, Int32.reduceMul, Int32.reduceToInt, Int32.reduceToNatClampNeg, Int.reduceLT, Int.reduceLE, Int.reduceNeg, true_and, and_true, or_self, or_false, false_or, false_and, and_false, true_or, or_true, if_true, if_false, ne_eq, Classical.not_not, not_true_eq_false, not_false_eq_true, true_implies, false_implies, implies_true, Nat.reduceEqDiff, Nat.reduceAdd, Nat.reduceLeDiff, Nat.reduceSub, reduceCtorEq, reduceIte, b189_73, z10]
            rw [rb_eq (x4 j) (by decide)]
            refine ⟨fun e => ?_, fun e => ?_⟩
            · have hij2 : i ≠ j := fun w => by rw [← w] at e; omega
              exact nx j (by omega) (by omega) (bl_c hil h59 hij (by omega) hno (Or.inr e))
            · have go := ih2 (j + 1) (by omega) (by omega) (fun k h1 h2 => by
                by_cases ck : k = j
                · rw [ck]; exact e
                · exact hno k h1 (by omega))
              simp only [lv_args, z_v, z_lg, z_h, z_u, z_u1, z_c, z_ct, z_sk, sbne, lst1_d, ldel, lst2_d, ldel2, z_sw, z_rok, zi, eq_self, List.map_cons, List.map_nil, List.append_nil, List.nil_append, List.cons_append, Int32.reduceLT, Int32.reduceLE, Int32.reduceAdd, Int32.reduceSub, Int32.reduceMul, Int32.reduceToInt, Int32.reduceToNatClampNeg, Int.reduceLT, Int.reduceLE, Int.reduceNeg, true_and, and_true, or_self, or_false, false_or, false_and, and_false, true_or, or_true, if_true, if_false, ne_eq, Classical.not_not, not_true_eq_false, not_false_eq_true, true_implies, false_implies, implies_true, Nat.reduceEqDiff, Nat.reduceAdd, Nat.reduceLeDiff, Nat.reduceSub, reduceCtorEq, reduceIte, b189_84, nI_s]
              exact go
        have at54 : (bkC (t i) ∨ t i = 59) → aWP d 189 54 [(2, .int (nI i)), (0, .ref 59), (1, .int (nI p))] [] h Q := fun hc => by
          simp only [lv_args, z_v, z_lg, z_h, z_u, z_u1, z_c, z_ct, z_sk, sbne, lst1_d, ldel, lst2_d, ldel2, z_sw, z_rok, zi, eq_self, List.map_cons, List.map_nil, List.append_nil, List.nil_append, List.cons_append, Int32.reduceLT, Int32.reduceLE, Int32.reduceAdd, Int32.reduceSub, Int32.reduceMul, Int32.reduceToInt, Int32.reduceToNatClampNeg, Int.reduceLT, Int.reduceLE, Int.reduceNeg, true_and, and_true, or_self, or_false, false_or, false_and, and_false, true_or, or_true, if_true, if_false, ne_eq, Classical.not_not, not_true_eq_false, not_false_eq_true, true_implies, false_implies, implies_true, Nat.reduceEqDiff, Nat.reduceAdd, Nat.reduceLeDiff, Nat.reduceSub, reduceCtorEq, reduceIte, b189_54, skM s, srM s, n61]
          simp (disch := omega) only [nI_ti, nI_cl, le0N, ltNN, c2, e3, true_and]
          try simp only [lv_args, z_v, z_lg, z_h, z_u, z_u1, z_c, z_ct, z_sk, sbne, lst1_d, ldel, lst2_d, ldel2, z_sw, z_rok, zi, eq_self, List.map_cons, List.map_nil, List.append_nil, List.nil_append, List.cons_append, Int32.reduceLT, Int32.reduceLE, Int32.reduceAdd, Int32.reduceSub, Int32.reduceMul, Int32.reduceToInt, Int32.reduceToNatClampNeg, Int.reduceLT, Int.reduceLE, Int.reduceNeg, true_and, and_true, or_self, or_false, false_or, false_and, and_false, true_or, or_true, if_true, if_false, ne_eq, Classical.not_not, not_true_eq_false, not_false_eq_true, true_implies, false_implies, implies_true, Nat.reduceEqDiff, Nat.reduceAdd, Nat.reduceLeDiff, Nat.reduceSub, reduceCtorEq, reduceIte, b189_54, z59]
          rw [rb_eq h4 (by decide)]
          refine ⟨fun e => ?_, fun e => ?_⟩
          · have go := nx (i + 1) (by omega) (by omega) (bl_b hil (hc.elim id (fun w => absurd w e)))
            simp only [lv_args, z_v, z_lg, z_h, z_u, z_u1, z_c, z_ct, z_sk, sbne, lst1_d, ldel, lst2_d, ldel2, z_sw, z_rok, zi, eq_self, List.map_cons, List.map_nil, List.append_nil, List.nil_append, List.cons_append, Int32.reduceLT, Int32.reduceLE, Int32.reduceAdd, Int32.reduceSub, Int32.reduceMul, Int32.reduceToInt, Int32.reduceToNatClampNeg, Int.reduceLT, Int.reduceLE, Int.reduceNeg, true_and, and_true, or_self, or_false, false_or, false_and, and_false, true_or, or_true, if_true, if_false, ne_eq, Classical.not_not, not_true_eq_false, not_false_eq_true, true_implies, false_implies, implies_true, Nat.reduceEqDiff, Nat.reduceAdd, Nat.reduceLeDiff, Nat.reduceSub, reduceCtorEq, reduceIte, b189_90, nI_s]
            exact go
          · exact inner (by first | exact e | exact Classical.not_not.mp e) (n - i) i (by omega) (Nat.le_refl _) (fun k h1 h2 => by omega)
        have stop : ¬ bkC (t i) → t i ≠ 59 → aWP d 189 96 [(2, .int (nI i)), (0, .ref 59), (1, .int (nI p))] [] h Q := fun c1 c2 => by
          have P := hq i hb (Or.inr ⟨hil, c1, c2⟩) hpi (by omega)
          simp only [lv_args, z_v, z_lg, z_h, z_u, z_u1, z_c, z_ct, z_sk, sbne, lst1_d, ldel, lst2_d, ldel2, z_sw, z_rok, zi, eq_self, List.map_cons, List.map_nil, List.append_nil, List.nil_append, List.cons_append, Int32.reduceLT, Int32.reduceLE, Int32.reduceAdd, Int32.reduceSub, Int32.reduceMul, Int32.reduceToInt, Int32.reduceToNatClampNeg, Int.reduceLT, Int.reduceLE, Int.reduceNeg, true_and, and_true, or_self, or_false, false_or, false_and, and_false, true_or, or_true, if_true, if_false, ne_eq, Classical.not_not, not_true_eq_false, not_false_eq_true, true_implies, false_implies, implies_true, Nat.reduceEqDiff, Nat.reduceAdd, Nat.reduceLeDiff, Nat.reduceSub, reduceCtorEq, reduceIte, b189_96]
          exact P
        simp only [lv_args, z_v, z_lg, z_h, z_u, z_u1, z_c, z_ct, z_sk, sbne, lst1_d, ldel, lst2_d, ldel2, z_sw, z_rok, zi, eq_self, List.map_cons, List.map_nil, List.append_nil, List.nil_append, List.cons_append, Int32.reduceLT, Int32.reduceLE, Int32.reduceAdd, Int32.reduceSub, Int32.reduceMul, Int32.reduceToInt, Int32.reduceToNatClampNeg, Int.reduceLT, Int.reduceLE, Int.reduceNeg, true_and, and_true, or_self, or_false, false_or, false_and, and_false, true_or, or_true, if_true, if_false, ne_eq, Classical.not_not, not_true_eq_false, not_false_eq_true, true_implies, false_implies, implies_true, Nat.reduceEqDiff, Nat.reduceAdd, Nat.reduceLeDiff, Nat.reduceSub, reduceCtorEq, reduceIte, b189_2, skM s, x1]
        simp (disch := omega) only [nI_leN]
        refine ⟨fun c => absurd c (by omega), fun _ => ?_⟩
        simp only [lv_args, z_v, z_lg, z_h, z_u, z_u1, z_c, z_ct, z_sk, sbne, lst1_d, ldel, lst2_d, ldel2, z_sw, z_rok, zi, eq_self, List.map_cons, List.map_nil, List.append_nil, List.nil_append, List.cons_append, Int32.reduceLT, Int32.reduceLE, Int32.reduceAdd, Int32.reduceSub, Int32.reduceMul, Int32.reduceToInt, Int32.reduceToNatClampNeg, Int.reduceLT, Int.reduceLE, Int.reduceNeg, true_and, and_true, or_self, or_false, false_or, false_and, and_false, true_or, or_true, if_true, if_false, ne_eq, Classical.not_not, not_true_eq_false, not_false_eq_true, true_implies, false_implies, implies_true, Nat.reduceEqDiff, Nat.reduceAdd, Nat.reduceLeDiff, Nat.reduceSub, reduceCtorEq, reduceIte, b189_10, skM s, srM s, n61]
        simp (disch := omega) only [nI_ti, nI_cl, le0N, ltNN, c2, e3, true_and]
        try simp only [lv_args, z_v, z_lg, z_h, z_u, z_u1, z_c, z_ct, z_sk, sbne, lst1_d, ldel, lst2_d, ldel2, z_sw, z_rok, zi, eq_self, List.map_cons, List.map_nil, List.append_nil, List.nil_append, List.cons_append, Int32.reduceLT, Int32.reduceLE, Int32.reduceAdd, Int32.reduceSub, Int32.reduceMul, Int32.reduceToInt, Int32.reduceToNatClampNeg, Int.reduceLT, Int.reduceLE, Int.reduceNeg, true_and, and_true, or_self, or_false, false_or, false_and, and_false, true_or, or_true, if_true, if_false, ne_eq, Classical.not_not, not_true_eq_false, not_false_eq_true, true_implies, false_implies, implies_true, Nat.reduceEqDiff, Nat.reduceAdd, Nat.reduceLeDiff, Nat.reduceSub, reduceCtorEq, reduceIte, b189_10, z9]
        rw [rb_eq h4 (by decide)]
        refine ⟨fun e => at54 (Or.inl (Or.inr (Or.inr e))), fun e9 => ?_⟩
        simp only [lv_args, z_v, z_lg, z_h, z_u, z_u1, z_c, z_ct, z_sk, sbne, lst1_d, ldel, lst2_d, ldel2, z_sw, z_rok, zi, eq_self, List.map_cons, List.map_nil, List.append_nil, List.nil_append, List.cons_append, Int32.reduceLT, Int32.reduceLE, Int32.reduceAdd, Int32.reduceSub, Int32.reduceMul, Int32.reduceToInt, Int32.reduceToNatClampNeg, Int.reduceLT, Int.reduceLE, Int.reduceNeg, true_and, and_true, or_self, or_false, false_or, false_and, and_false, true_or, or_true, if_true, if_false, ne_eq, Classical.not_not, not_true_eq_false, not_false_eq_true, true_implies, false_implies, implies_true, Nat.reduceEqDiff, Nat.reduceAdd, Nat.reduceLeDiff, Nat.reduceSub, reduceCtorEq, reduceIte, b189_21, skM s, srM s, n61]
        simp (disch := omega) only [nI_ti, nI_cl, le0N, ltNN, c2, e3, true_and]
        try simp only [lv_args, z_v, z_lg, z_h, z_u, z_u1, z_c, z_ct, z_sk, sbne, lst1_d, ldel, lst2_d, ldel2, z_sw, z_rok, zi, eq_self, List.map_cons, List.map_nil, List.append_nil, List.nil_append, List.cons_append, Int32.reduceLT, Int32.reduceLE, Int32.reduceAdd, Int32.reduceSub, Int32.reduceMul, Int32.reduceToInt, Int32.reduceToNatClampNeg, Int.reduceLT, Int.reduceLE, Int.reduceNeg, true_and, and_true, or_self, or_false, false_or, false_and, and_false, true_or, or_true, if_true, if_false, ne_eq, Classical.not_not, not_true_eq_false, not_false_eq_true, true_implies, false_implies, implies_true, Nat.reduceEqDiff, Nat.reduceAdd, Nat.reduceLeDiff, Nat.reduceSub, reduceCtorEq, reduceIte, b189_21, z10]
        rw [rb_eq h4 (by decide)]
        refine ⟨fun e => at54 (Or.inl (Or.inr (Or.inl e))), fun e10 => ?_⟩
        simp only [lv_args, z_v, z_lg, z_h, z_u, z_u1, z_c, z_ct, z_sk, sbne, lst1_d, ldel, lst2_d, ldel2, z_sw, z_rok, zi, eq_self, List.map_cons, List.map_nil, List.append_nil, List.nil_append, List.cons_append, Int32.reduceLT, Int32.reduceLE, Int32.reduceAdd, Int32.reduceSub, Int32.reduceMul, Int32.reduceToInt, Int32.reduceToNatClampNeg, Int.reduceLT, Int.reduceLE, Int.reduceNeg, true_and, and_true, or_self, or_false, false_or, false_and, and_false, true_or, or_true, if_true, if_false, ne_eq, Classical.not_not, not_true_eq_false, not_false_eq_true, true_implies, false_implies, implies_true, Nat.reduceEqDiff, Nat.reduceAdd, Nat.reduceLeDiff, Nat.reduceSub, reduceCtorEq, reduceIte, b189_32, skM s, srM s, n61]
        simp (disch := omega) only [nI_ti, nI_cl, le0N, ltNN, c2, e3, true_and]
        try simp only [lv_args, z_v, z_lg, z_h, z_u, z_u1, z_c, z_ct, z_sk, sbne, lst1_d, ldel, lst2_d, ldel2, z_sw, z_rok, zi, eq_self, List.map_cons, List.map_nil, List.append_nil, List.nil_append, List.cons_append, Int32.reduceLT, Int32.reduceLE, Int32.reduceAdd, Int32.reduceSub, Int32.reduceMul, Int32.reduceToInt, Int32.reduceToNatClampNeg, Int.reduceLT, Int.reduceLE, Int.reduceNeg, true_and, and_true, or_self, or_false, false_or, false_and, and_false, true_or, or_true, if_true, if_false, ne_eq, Classical.not_not, not_true_eq_false, not_false_eq_true, true_implies, false_implies, implies_true, Nat.reduceEqDiff, Nat.reduceAdd, Nat.reduceLeDiff, Nat.reduceSub, reduceCtorEq, reduceIte, b189_32, z32]
        rw [rb_eq h4 (by decide)]
        refine ⟨fun e => at54 (Or.inl (Or.inl e)), fun e32 => ?_⟩
        simp only [lv_args, z_v, z_lg, z_h, z_u, z_u1, z_c, z_ct, z_sk, sbne, lst1_d, ldel, lst2_d, ldel2, z_sw, z_rok, zi, eq_self, List.map_cons, List.map_nil, List.append_nil, List.nil_append, List.cons_append, Int32.reduceLT, Int32.reduceLE, Int32.reduceAdd, Int32.reduceSub, Int32.reduceMul, Int32.reduceToInt, Int32.reduceToNatClampNeg, Int.reduceLT, Int.reduceLE, Int.reduceNeg, true_and, and_true, or_self, or_false, false_or, false_and, and_false, true_or, or_true, if_true, if_false, ne_eq, Classical.not_not, not_true_eq_false, not_false_eq_true, true_implies, false_implies, implies_true, Nat.reduceEqDiff, Nat.reduceAdd, Nat.reduceLeDiff, Nat.reduceSub, reduceCtorEq, reduceIte, b189_43, skM s, srM s, n61]
        simp (disch := omega) only [nI_ti, nI_cl, le0N, ltNN, c2, e3, true_and]
        try simp only [lv_args, z_v, z_lg, z_h, z_u, z_u1, z_c, z_ct, z_sk, sbne, lst1_d, ldel, lst2_d, ldel2, z_sw, z_rok, zi, eq_self, List.map_cons, List.map_nil, List.append_nil, List.nil_append, List.cons_append, Int32.reduceLT, Int32.reduceLE, Int32.reduceAdd, Int32.reduceSub, Int32.reduceMul, Int32.reduceToInt, Int32.reduceToNatClampNeg, Int.reduceLT, Int.reduceLE, Int.reduceNeg, true_and, and_true, or_self, or_false, false_or, false_and, and_false, true_or, or_true, if_true, if_false, ne_eq, Classical.not_not, not_true_eq_false, not_false_eq_true, true_implies, false_implies, implies_true, Nat.reduceEqDiff, Nat.reduceAdd, Nat.reduceLeDiff, Nat.reduceSub, reduceCtorEq, reduceIte, b189_43, z59]
        rw [rb_eq h4 (by decide)]
        refine ⟨fun e => ?_, fun e => ?_⟩
        · exact stop (fun w => w.elim e32 (fun w => w.elim e10 e9)) e
        · exact at54 (Or.inr (by first | exact e | exact Classical.not_not.mp e))
  have go := loop (n - p) p (by omega) (Nat.le_refl _) bl_rf
  unfold aEv
  simp only [lv_args, z_v, z_lg, z_h, z_u, z_u1, z_c, z_ct, z_sk, sbne, lst1_d, ldel, lst2_d, ldel2, z_sw, z_rok, zi, eq_self, List.map_cons, List.map_nil, List.append_nil, List.nil_append, List.cons_append, Int32.reduceLT, Int32.reduceLE, Int32.reduceAdd, Int32.reduceSub, Int32.reduceMul, Int32.reduceToInt, Int32.reduceToNatClampNeg, Int.reduceLT, Int.reduceLE, Int.reduceNeg, true_and, and_true, or_self, or_false, false_or, false_and, and_false, true_or, or_true, if_true, if_false, ne_eq, Classical.not_not, not_true_eq_false, not_false_eq_true, true_implies, false_implies, implies_true, Nat.reduceEqDiff, Nat.reduceAdd, Nat.reduceLeDiff, Nat.reduceSub, reduceCtorEq, reduceIte, b189_0]
  exact go
end MSC
