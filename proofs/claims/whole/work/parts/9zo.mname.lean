/-! BUILD. The reference: the table of names -/
def kyN (s : List Nat) : KY := ky (s.map nI)
def KS (q : Nat) (h0 h : Hp) : Prop := (hK h = hK h0 ∧ hR h = hR h0 ∧ hN h = hN h0 ∧ hn h = hn h0 ∧ hu h = hu h0 ∧ hv h = hv h0 ∧ hL h = hL h0 ∧ hB h = hB h0) ∧ (∀ a i, ¬ ((a = 59 ∧ i = 9) ∨ (a = q ∧ i = 1)) → hI h a i = hI h0 a i) ∧ ∀ a, ¬ ((62 ≤ a ∧ a ≤ 64) ∨ (q + 8 ≤ a ∧ a ≤ q + 11) ∨ a = q + 13) → hA h a = hA h0 a
/-- the names met so far, and where they stand in the text -/
def MTn (t : Nat → Nat) (n : Nat) (K : List KY) (mt : List Nat) (q : Nat) (h : Hp) : Prop := (hI h q 1 = nI mt.length ∧ mt.length ≤ 3000 ∧ mt.Nodup) ∧ (∀ (k j : Nat), mt[k]? = some j → j < K.length ∧ hA h (q + 10) k = nI (if j < 30 then j + 1 else 0) ∧ hA h (q + 11) k = -1 ∧ (30 ≤ j → ∃ a b, a < b ∧ b ≤ n ∧ b - a ≤ 12 ∧ Dgs (sN t a b) ∧ K[j]? = some (kyN (sN t a b)) ∧ hA h (q + 8) k = nI a ∧ hA h (q + 9) k = nI (b - a))) ∧ (∀ j, j < n → hA h (q + 13) j = rb (t j)) ∧ K.Nodup ∧ (∀ j, j < 30 → K[j]? = K30[j]?) ∧ 30 ≤ K.length
def SMt (t : Nat → Nat) (n q : Nat) (h0 : Hp) : Prop := (Sk h0 ∧ Rm h0) ∧ YY q h0 ∧ TX t n h0
section MNM
variable {h h' h0 : Hp} {Q : Option Value → Hp → Prop} {d n q : Nat} {t : Nat → Nat} {K : List KY} {mt : List Nat}
theorem ks_I {a i : Nat} {v : Int32} (k : KS q h0 h) (ha : (a = 59 ∧ i = 9) ∨ (a = q ∧ i = 1)) : KS q h0 (pI h a i v) := ⟨k.1, fun x j hx => (up2_ne (fun e => hx (by rw [e.1, e.2]; exact ha))).trans (k.2.1 x j hx), k.2.2⟩
theorem ks_A {a : Nat} {f : Nat → Int32} (k : KS q h0 h) (ha : (62 ≤ a ∧ a ≤ 64) ∨ (q + 8 ≤ a ∧ a ≤ q + 11) ∨ a = q + 13) : KS q h0 (pA h a f) := ⟨k.1, k.2.1, fun x hx => (up1_ne (fun e => hx (by rw [e]; exact ha))).trans (k.2.2 x hx)⟩
theorem sm_k (k : KS q h0 h) (m : SMt t n q h0) : SMt t n q h := by
  obtain ⟨⟨s, r⟩, yy, tx⟩ := m
  have hq : q = 66 ∨ q = 86 := yy.elim (fun w => Or.inl w.1) (fun w => Or.inr w.1)
  refine ⟨⟨(sk_same k.1.1 k.1.2.1 k.1.2.2.2.1 : Sk _ = Sk h0) ▸ s, rm_same k.1.2.2.1 k.1.2.2.2.1 k.1.2.2.2.2.1 r⟩, ?_, ?_⟩
  · unfold YY; rw [k.1.2.1]; exact yy
  · unfold TX
    rw [k.2.1 59 5 (by omega), k.2.2 61 (by omega)]
    exact tx
theorem sm_q (m : SMt t n q h) : q = 66 ∨ q = 86 := m.2.1.elim (fun w => Or.inl w.1) (fun w => Or.inr w.1)
theorem sm_R (m : SMt t n q h) : hR h 59 18 = some q := by
  rcases m.2.1 with ⟨rfl, _, e⟩ | ⟨rfl, _, e⟩ <;> exact e
theorem rb_inj {a b : Nat} (ha : a < 256) (hb : b < 256) : (rb a = rb b) = (a = b) := by
  refine propext ⟨fun e => ?_, fun e => by rw [e]⟩
  have h1 := rb_and a ha
  rw [e, rb_and b hb] at h1
  exact (nI_inj (a := b) (b := a) (by omega) (by omega) h1).symm
/-- a new name -/
theorem sp_newName {fr sz w j : Nat} (m : SMt t n q h0) (ky : KS q h0 h) (M : MTn t n K mt q h) (hl : mt.length < 3000) (K' : List KY) (hK' : (K' = K ∧ j < K.length) ∨ (∃ k, k ∉ K ∧ K' = K ++ [k] ∧ j = K.length)) (hj : j ∉ mt) (hw : w = if j < 30 then j + 1 else 0) (hfs : 30 ≤ j → ∃ b, fr < b ∧ b ≤ n ∧ b - fr ≤ 12 ∧ Dgs (sN t fr b) ∧ K'[j]? = some (kyN (sN t fr b)) ∧ sz = b - fr) (hq : ∀ h', KS q h0 h' → MTn t n K' (mt ++ [j]) q h' → hI h' 59 9 = hI h 59 9 → (∀ a, 62 ≤ a → a ≤ 64 → hA h' a = hA h a) → Q (some (.int (nI mt.length))) h') : aEv d 240 [.ref 59, .int (nI fr), .int (nI sz), .int (nI w)] h Q := by
  have m1 := sm_k ky m
  have s := m1.1.1
  have hq66 := sm_q m
  have R := sm_R m1
  have nn := nq m1.1.2 hq66
  obtain ⟨⟨M1, M2, M3⟩, M4, M5, M6, M7, M8⟩ := M
  have c2 : (mt.length < 3000) = True := eq_true hl
  have kl : K.length ≤ K'.length := by
    rcases hK' with ⟨rfl, _⟩ | ⟨k, _, rfl, _⟩
    · exact Nat.le_refl _
    · rw [List.length_append]; omega
  have kj : j < K'.length := by
    rcases hK' with ⟨rfl, h⟩ | ⟨k, _, rfl, rfl⟩
    · exact h
    · rw [List.length_append, List.length_singleton]; omega
  have kg : ∀ i, i < K.length → K'[i]? = K[i]? := fun i hi => by
    rcases hK' with ⟨rfl, _⟩ | ⟨k, _, rfl, _⟩
    · rfl
    · rw [List.getElem?_append_left hi]
  have knd : K'.Nodup := by
    rcases hK' with ⟨rfl, _⟩ | ⟨k, hk, rfl, _⟩
    · exact M6
    · exact List.nodup_append.mpr ⟨M6, by simp, fun a ha b hb e => by
        simp only [List.mem_cons, List.not_mem_nil, or_false] at hb
        subst hb
        exact hk (e ▸ ha)⟩
  have mnd : (mt ++ [j]).Nodup := List.nodup_append.mpr ⟨M3, by simp, fun a ha b hb e => by
        simp only [List.mem_cons, List.not_mem_nil, or_false] at hb
        subst hb
        exact hj (e ▸ ha)⟩
  have ml : (mt ++ [j]).length = mt.length + 1 := by rw [List.length_append]; rfl
  have fin : ∀ h', hI h' q 1 = nI (mt.length + 1) → hA h' (q + 8) = upd (hA h (q + 8)) mt.length (nI fr) → hA h' (q + 9) = upd (hA h (q + 9)) mt.length (nI sz) → hA h' (q + 10) = upd (hA h (q + 10)) mt.length (nI w) → hA h' (q + 11) = upd (hA h (q + 11)) mt.length (-1) → hA h' (q + 13) = hA h (q + 13) → MTn t n K' (mt ++ [j]) q h' := fun h' i1 a8 a9 a10 a11 a13 => by
    refine ⟨⟨by rw [ml]; exact i1, by omega, mnd⟩, fun k x hx => ?_, fun i hi => by rw [a13]; exact M5 i hi, knd, fun i hi => by rw [kg i (by omega)]; exact M7 i hi, by omega⟩
    by_cases ck : k < mt.length
    · rw [List.getElem?_append_left ck] at hx
      obtain ⟨o1, o2, o3, o4⟩ := M4 k x hx
      rw [a8, a9, a10, a11]
      have ck' : ¬ k = mt.length := by omega
      unfold upd
      rw [if_neg ck', if_neg ck', if_neg ck', if_neg ck']
      refine ⟨by omega, o2, o3, fun h30 => ?_⟩
      obtain ⟨a, b, p1, p2, p3, p4, p5, p6, p7⟩ := o4 h30
      exact ⟨a, b, p1, p2, p3, p4, by rw [kg x o1]; exact p5, p6, p7⟩
    · have hk := g_lt hx
      rw [ml] at hk
      have ek : k = mt.length := by omega
      subst ek
      rw [List.getElem?_append_right (Nat.le_refl _), Nat.sub_self] at hx
      have hx : j = x := by injection hx
      subst hx
      rw [a8, a9, a10, a11]
      unfold upd
      rw [if_pos rfl, if_pos rfl, if_pos rfl, if_pos rfl]
      refine ⟨kj, by rw [hw], rfl, fun h30 => ?_⟩
      obtain ⟨b, p1, p2, p3, p4, p5, p6⟩ := hfs h30
      exact ⟨fr, b, p1, p2, p3, p4, p5, rfl, by rw [p6]⟩
  rcases hq66 with rfl | rfl
  · have n8 : hN h 74 = 3000 := nn.2.2.2.2.2.2.2.1
    have n9 : hN h 75 = 3000 := nn.2.2.2.2.2.2.2.2.1
    have n10 : hN h 76 = 3000 := nn.2.2.2.2.2.2.2.2.2.1
    have n11 : hN h 77 = 3000 := nn.2.2.2.2.2.2.2.2.2.2.1
    have M1 : hI h 66 1 = nI mt.length := M1
    have kz : KS 66 h0 (pA (pA (pA (pA (pI h 66 1 (nI (mt.length + 1))) 74 (upd (hA h 74) mt.length (nI fr))) 75 (upd (hA h 75) mt.length (nI sz))) 76 (upd (hA h 76) mt.length (nI w))) 77 (upd (hA h 77) mt.length (-1))) := ks_A (ks_A (ks_A (ks_A (ks_I ky (by omega)) (by omega)) (by omega)) (by omega)) (by omega)
    have P := hq _ kz (fin _ rfl rfl rfl rfl rfl rfl) rfl (fun a a1 a2 => by
      have : a = 62 ∨ a = 63 ∨ a = 64 := by omega
      rcases this with rfl | rfl | rfl <;> rfl)
    unfold aEv
    simp only [lv_args, z_v, z_lg, z_h, z_u, z_u1, z_c, z_ct, z_sk, sbne, lst1_d, ldel, lst2_d, ldel2, z_sw, z_rok, zi, eq_self, List.map_cons, List.map_nil, List.append_nil, List.nil_append, List.cons_append, Int32.reduceLT, Int32.reduceLE, Int32.reduceAdd, Int32.reduceSub, Int32.reduceMul, Int32.reduceToInt, Int32.reduceToNatClampNeg, Int.reduceLT, Int.reduceLE, Int.reduceNeg, true_and, and_true, or_self, or_false, false_or, false_and, and_false, true_or, or_true, if_true, if_false, ne_eq, Classical.not_not, not_true_eq_false, not_false_eq_true, true_implies, false_implies, implies_true, Nat.reduceEqDiff, Nat.reduceAdd, Nat.reduceLeDiff, Nat.reduceSub, reduceCtorEq, reduceIte, b240_0, skM s, srM s, R, M1, n8, n9, n10, n11, nI_s]
    simp (disch := omega) only [nI_ti, nI_cl, le0N, ltNN, c2, true_and]
    try simp only [lv_args, z_v, z_lg, z_h, z_u, z_u1, z_c, z_ct, z_sk, sbne, lst1_d, ldel, lst2_d, ldel2, z_sw, z_rok, zi, eq_self, List.map_cons, List.map_nil, List.append_nil, List.nil_append, List.cons_append, Int32.reduceLT, Int32.reduceLE, Int32.reduceAdd, Int32.reduceSub, Int32.reduceMul, Int32.reduceToInt, Int32.reduceToNatClampNeg, Int.reduceLT, Int.reduceLE, Int.reduceNeg, true_and, and_true, or_self, or_false, false_or, false_and, and_false, true_or, or_true, if_true, if_false, ne_eq, Classical.not_not, not_true_eq_false, not_false_eq_true, true_implies, false_implies, implies_true, Nat.reduceEqDiff, Nat.reduceAdd, Nat.reduceLeDiff, Nat.reduceSub, reduceCtorEq, reduceIte, b240_0, skM s, srM s, R, M1, n8, n9, n10, n11, nI_s]
    try simp (disch := omega) only [nI_ti, nI_cl, le0N, ltNN, c2, true_and]
    try simp only [lv_args, z_v, z_lg, z_h, z_u, z_u1, z_c, z_ct, z_sk, sbne, lst1_d, ldel, lst2_d, ldel2, z_sw, z_rok, zi, eq_self, List.map_cons, List.map_nil, List.append_nil, List.nil_append, List.cons_append, Int32.reduceLT, Int32.reduceLE, Int32.reduceAdd, Int32.reduceSub, Int32.reduceMul, Int32.reduceToInt, Int32.reduceToNatClampNeg, Int.reduceLT, Int.reduceLE, Int.reduceNeg, true_and, and_true, or_self, or_false, false_or, false_and, and_false, true_or, or_true, if_true, if_false, ne_eq, Classical.not_not, not_true_eq_false, not_false_eq_true, true_implies, false_implies, implies_true, Nat.reduceEqDiff, Nat.reduceAdd, Nat.reduceLeDiff, Nat.reduceSub, reduceCtorEq, reduceIte, b240_0, skM s, srM s, R, M1, n8, n9, n10, n11, nI_s]
    exact P
  · have n8 : hN h 94 = 3000 := nn.2.2.2.2.2.2.2.1
    have n9 : hN h 95 = 3000 := nn.2.2.2.2.2.2.2.2.1
    have n10 : hN h 96 = 3000 := nn.2.2.2.2.2.2.2.2.2.1
    have n11 : hN h 97 = 3000 := nn.2.2.2.2.2.2.2.2.2.2.1
    have M1 : hI h 86 1 = nI mt.length := M1
    have kz : KS 86 h0 (pA (pA (pA (pA (pI h 86 1 (nI (mt.length + 1))) 94 (upd (hA h 94) mt.length (nI fr))) 95 (upd (hA h 95) mt.length (nI sz))) 96 (upd (hA h 96) mt.length (nI w))) 97 (upd (hA h 97) mt.length (-1))) := ks_A (ks_A (ks_A (ks_A (ks_I ky (by omega)) (by omega)) (by omega)) (by omega)) (by omega)
    have P := hq _ kz (fin _ rfl rfl rfl rfl rfl rfl) rfl (fun a a1 a2 => by
      have : a = 62 ∨ a = 63 ∨ a = 64 := by omega
      rcases this with rfl | rfl | rfl <;> rfl)
    unfold aEv
    simp only [lv_args, z_v, z_lg, z_h, z_u, z_u1, z_c, z_ct, z_sk, sbne, lst1_d, ldel, lst2_d, ldel2, z_sw, z_rok, zi, eq_self, List.map_cons, List.map_nil, List.append_nil, List.nil_append, List.cons_append, Int32.reduceLT, Int32.reduceLE, Int32.reduceAdd, Int32.reduceSub, Int32.reduceMul, Int32.reduceToInt, Int32.reduceToNatClampNeg, Int.reduceLT, Int.reduceLE, Int.reduceNeg, true_and, and_true, or_self, or_false, false_or, false_and, and_false, true_or, or_true, if_true, if_false, ne_eq, Classical.not_not, not_true_eq_false, not_false_eq_true, true_implies, false_implies, implies_true, Nat.reduceEqDiff, Nat.reduceAdd, Nat.reduceLeDiff, Nat.reduceSub, reduceCtorEq, reduceIte, b240_0, skM s, srM s, R, M1, n8, n9, n10, n11, nI_s]
    simp (disch := omega) only [nI_ti, nI_cl, le0N, ltNN, c2, true_and]
    try simp only [lv_args, z_v, z_lg, z_h, z_u, z_u1, z_c, z_ct, z_sk, sbne, lst1_d, ldel, lst2_d, ldel2, z_sw, z_rok, zi, eq_self, List.map_cons, List.map_nil, List.append_nil, List.nil_append, List.cons_append, Int32.reduceLT, Int32.reduceLE, Int32.reduceAdd, Int32.reduceSub, Int32.reduceMul, Int32.reduceToInt, Int32.reduceToNatClampNeg, Int.reduceLT, Int.reduceLE, Int.reduceNeg, true_and, and_true, or_self, or_false, false_or, false_and, and_false, true_or, or_true, if_true, if_false, ne_eq, Classical.not_not, not_true_eq_false, not_false_eq_true, true_implies, false_implies, implies_true, Nat.reduceEqDiff, Nat.reduceAdd, Nat.reduceLeDiff, Nat.reduceSub, reduceCtorEq, reduceIte, b240_0, skM s, srM s, R, M1, n8, n9, n10, n11, nI_s]
    try simp (disch := omega) only [nI_ti, nI_cl, le0N, ltNN, c2, true_and]
    try simp only [lv_args, z_v, z_lg, z_h, z_u, z_u1, z_c, z_ct, z_sk, sbne, lst1_d, ldel, lst2_d, ldel2, z_sw, z_rok, zi, eq_self, List.map_cons, List.map_nil, List.append_nil, List.nil_append, List.cons_append, Int32.reduceLT, Int32.reduceLE, Int32.reduceAdd, Int32.reduceSub, Int32.reduceMul, Int32.reduceToInt, Int32.reduceToNatClampNeg, Int.reduceLT, Int.reduceLE, Int.reduceNeg, true_and, and_true, or_self, or_false, false_or, false_and, and_false, true_or, or_true, if_true, if_false, ne_eq, Classical.not_not, not_true_eq_false, not_false_eq_true, true_implies, false_implies, implies_true, Nat.reduceEqDiff, Nat.reduceAdd, Nat.reduceLeDiff, Nat.reduceSub, reduceCtorEq, reduceIte, b240_0, skM s, srM s, R, M1, n8, n9, n10, n11, nI_s]
    exact P
theorem idx_first {l : List Nat} {j k : Nat} (hk : l[k]? = some j) (hno : ∀ i, i < k → l[i]? ≠ some j) : l.idxOf j = k := by
  exact idx_at hk hno
/-- the name of a word -/
theorem sp_wordName {j : Nat} (m : SMt t n q h0) (ky : KS q h0 h) (M : MTn t n K mt q h) (hl : mt.length < 3000) (hj30 : j < 30) (hd : 1 < d) (hq : ∀ h', KS q h0 h' → MTn t n K (if j ∈ mt then mt else mt ++ [j]) q h' → hI h' 59 9 = hI h 59 9 → (∀ a, 62 ≤ a → a ≤ 64 → hA h' a = hA h a) → Q (some (.int (nI ((if j ∈ mt then mt else mt ++ [j]).idxOf j)))) h') : aEv d 274 [.ref 59, .int (nI (j + 1))] h Q := by
  have h00 : 0 < d := by omega
  have m1 := sm_k ky m
  have s := m1.1.1
  have hq66 := sm_q m
  have R := sm_R m1
  have sw := sq s hq66
  have nn := nq m1.1.2 hq66
  have M0 := M
  obtain ⟨⟨M1, M2, M3⟩, M4, M5, M6, M7, M8⟩ := M
  have z0 : (0 : Int32) = nI 0 := rfl
  have loop : ∀ (r i : Nat), i + r = mt.length → (∀ k, k < i → mt[k]? ≠ some j) → aWP d 274 2 [(2, .int (nI i)), (0, .ref 59), (1, .int (nI (j + 1)))] [] h Q := by
    intro r
    induction r with
    | zero =>
      intro i hi hno
      have hi : i = mt.length := hi
      have hjm : j ∉ mt := fun w => by
        obtain ⟨k, hk⟩ := List.mem_iff_getElem?.mp w
        exact hno k (by have := g_lt hk; omega) hk
      rw [if_neg hjm] at hq
      have e : (mt ++ [j]).idxOf j = mt.length := idx_first (by simp) (fun i' hi' => by
        rw [List.getElem?_append_left hi']
        exact fun e => hjm (List.mem_of_getElem? e))
      rw [e] at hq
      simp only [lv_args, z_v, z_lg, z_h, z_u, z_u1, z_c, z_ct, z_sk, sbne, lst1_d, ldel, lst2_d, ldel2, z_sw, z_rok, zi, eq_self, List.map_cons, List.map_nil, List.append_nil, List.nil_append, List.cons_append, Int32.reduceLT, Int32.reduceLE, Int32.reduceAdd, Int32.reduceSub, Int32.reduceMul, Int32.reduceToInt, Int32.reduceToNatClampNeg, Int.reduceLT, Int.reduceLE, Int.reduceNeg, true_and, and_true, or_self, or_false, false_or, false_and, and_false, true_or, or_true, if_true, if_false, ne_eq, Classical.not_not, not_true_eq_false, not_false_eq_true, true_implies, false_implies, implies_true, Nat.reduceEqDiff, Nat.reduceAdd, Nat.reduceLeDiff, Nat.reduceSub, reduceCtorEq, reduceIte, b274_2, skM s, R, sw, M1]
      simp (disch := omega) only [nI_leN]
      refine ⟨fun _ => ?_, fun c => absurd (by omega) c⟩
      simp only [lv_args, z_v, z_lg, z_h, z_u, z_u1, z_c, z_ct, z_sk, sbne, lst1_d, ldel, lst2_d, ldel2, z_sw, z_rok, zi, eq_self, List.map_cons, List.map_nil, List.append_nil, List.nil_append, List.cons_append, Int32.reduceLT, Int32.reduceLE, Int32.reduceAdd, Int32.reduceSub, Int32.reduceMul, Int32.reduceToInt, Int32.reduceToNatClampNeg, Int.reduceLT, Int.reduceLE, Int.reduceNeg, true_and, and_true, or_self, or_false, false_or, false_and, and_false, true_or, or_true, if_true, if_false, ne_eq, Classical.not_not, not_true_eq_false, not_false_eq_true, true_implies, false_implies, implies_true, Nat.reduceEqDiff, Nat.reduceAdd, Nat.reduceLeDiff, Nat.reduceSub, reduceCtorEq, reduceIte, b274_34, skM s, h00, z0]
      refine sp_newName (K' := K) m ky M0 hl (Or.inl ⟨rfl, by omega⟩) hjm (by rw [if_pos hj30]) (fun w => by omega) (fun h' k' M' a9 aT => ?_)
      have s' := (sm_k k' m).1.1
      have P := hq h' k' M' a9 aT
      simp only [lv_args, z_v, z_lg, z_h, z_u, z_u1, z_c, z_ct, z_sk, sbne, lst1_d, ldel, lst2_d, ldel2, z_sw, z_rok, zi, eq_self, List.map_cons, List.map_nil, List.append_nil, List.nil_append, List.cons_append, Int32.reduceLT, Int32.reduceLE, Int32.reduceAdd, Int32.reduceSub, Int32.reduceMul, Int32.reduceToInt, Int32.reduceToNatClampNeg, Int.reduceLT, Int.reduceLE, Int.reduceNeg, true_and, and_true, or_self, or_false, false_or, false_and, and_false, true_or, or_true, if_true, if_false, ne_eq, Classical.not_not, not_true_eq_false, not_false_eq_true, true_implies, false_implies, implies_true, Nat.reduceEqDiff, Nat.reduceAdd, Nat.reduceLeDiff, Nat.reduceSub, reduceCtorEq, reduceIte, b274_34, skM s, skM s', Nat.reduceLT]
      exact P
    | succ r ih =>
      intro i hi hno
      have hil : i < mt.length := by omega
      have hg := List.getElem?_eq_getElem hil
      obtain ⟨o1, o2, o3, o4⟩ := M4 i _ hg
      have c2 : (i < 3000) = True := eq_true (by omega)
      have key : (nI (if mt[i] < 30 then mt[i] + 1 else 0) = nI (j + 1)) = (mt[i] = j) := by
        rw [nI_eqN (by split <;> omega) (by omega)]
        refine propext ⟨fun e => ?_, fun e => by rw [if_pos (by omega), e]⟩
        by_cases c : mt[i] < 30
        · rw [if_pos c] at e; omega
        · rw [if_neg c] at e; omega
      simp only [lv_args, z_v, z_lg, z_h, z_u, z_u1, z_c, z_ct, z_sk, sbne, lst1_d, ldel, lst2_d, ldel2, z_sw, z_rok, zi, eq_self, List.map_cons, List.map_nil, List.append_nil, List.nil_append, List.cons_append, Int32.reduceLT, Int32.reduceLE, Int32.reduceAdd, Int32.reduceSub, Int32.reduceMul, Int32.reduceToInt, Int32.reduceToNatClampNeg, Int.reduceLT, Int.reduceLE, Int.reduceNeg, true_and, and_true, or_self, or_false, false_or, false_and, and_false, true_or, or_true, if_true, if_false, ne_eq, Classical.not_not, not_true_eq_false, not_false_eq_true, true_implies, false_implies, implies_true, Nat.reduceEqDiff, Nat.reduceAdd, Nat.reduceLeDiff, Nat.reduceSub, reduceCtorEq, reduceIte, b274_2, skM s, R, sw, M1]
      simp (disch := omega) only [nI_leN]
      refine ⟨fun c => absurd c (by omega), fun _ => ?_⟩
      simp only [lv_args, z_v, z_lg, z_h, z_u, z_u1, z_c, z_ct, z_sk, sbne, lst1_d, ldel, lst2_d, ldel2, z_sw, z_rok, zi, eq_self, List.map_cons, List.map_nil, List.append_nil, List.nil_append, List.cons_append, Int32.reduceLT, Int32.reduceLE, Int32.reduceAdd, Int32.reduceSub, Int32.reduceMul, Int32.reduceToInt, Int32.reduceToNatClampNeg, Int.reduceLT, Int.reduceLE, Int.reduceNeg, true_and, and_true, or_self, or_false, false_or, false_and, and_false, true_or, or_true, if_true, if_false, ne_eq, Classical.not_not, not_true_eq_false, not_false_eq_true, true_implies, false_implies, implies_true, Nat.reduceEqDiff, Nat.reduceAdd, Nat.reduceLeDiff, Nat.reduceSub, reduceCtorEq, reduceIte, b274_13, skM s, R, srM s, sw, nn]
      simp (disch := omega) only [nI_ti, nI_cl, le0N, ltNN, c2, o2, true_and]
      try simp only [lv_args, z_v, z_lg, z_h, z_u, z_u1, z_c, z_ct, z_sk, sbne, lst1_d, ldel, lst2_d, ldel2, z_sw, z_rok, zi, eq_self, List.map_cons, List.map_nil, List.append_nil, List.nil_append, List.cons_append, Int32.reduceLT, Int32.reduceLE, Int32.reduceAdd, Int32.reduceSub, Int32.reduceMul, Int32.reduceToInt, Int32.reduceToNatClampNeg, Int.reduceLT, Int.reduceLE, Int.reduceNeg, true_and, and_true, or_self, or_false, false_or, false_and, and_false, true_or, or_true, if_true, if_false, ne_eq, Classical.not_not, not_true_eq_false, not_false_eq_true, true_implies, false_implies, implies_true, Nat.reduceEqDiff, Nat.reduceAdd, Nat.reduceLeDiff, Nat.reduceSub, reduceCtorEq, reduceIte, b274_13]
      rw [key]
      refine ⟨fun c => ?_, fun c => ?_⟩
      · have go := ih (i + 1) (by omega) (fun k hk => by
          by_cases ck : k = i
          · rw [ck, hg]
            intro w
            injection w with w
            exact c w
          · exact hno k (by omega))
        simp only [lv_args, z_v, z_lg, z_h, z_u, z_u1, z_c, z_ct, z_sk, sbne, lst1_d, ldel, lst2_d, ldel2, z_sw, z_rok, zi, eq_self, List.map_cons, List.map_nil, List.append_nil, List.nil_append, List.cons_append, Int32.reduceLT, Int32.reduceLE, Int32.reduceAdd, Int32.reduceSub, Int32.reduceMul, Int32.reduceToInt, Int32.reduceToNatClampNeg, Int.reduceLT, Int.reduceLE, Int.reduceNeg, true_and, and_true, or_self, or_false, false_or, false_and, and_false, true_or, or_true, if_true, if_false, ne_eq, Classical.not_not, not_true_eq_false, not_false_eq_true, true_implies, false_implies, implies_true, Nat.reduceEqDiff, Nat.reduceAdd, Nat.reduceLeDiff, Nat.reduceSub, reduceCtorEq, reduceIte, b274_28, nI_s]
        exact go
      · have c : mt[i] = j := by first | exact c | exact Classical.not_not.mp c
        have hjm : j ∈ mt := by rw [← c]; exact List.getElem_mem hil
        rw [if_pos hjm] at hq
        have e : mt.idxOf j = i := idx_first (by rw [hg, c]) hno
        rw [e] at hq
        have P := hq h ky M0 rfl (fun _ _ _ => rfl)
        simp only [lv_args, z_v, z_lg, z_h, z_u, z_u1, z_c, z_ct, z_sk, sbne, lst1_d, ldel, lst2_d, ldel2, z_sw, z_rok, zi, eq_self, List.map_cons, List.map_nil, List.append_nil, List.nil_append, List.cons_append, Int32.reduceLT, Int32.reduceLE, Int32.reduceAdd, Int32.reduceSub, Int32.reduceMul, Int32.reduceToInt, Int32.reduceToNatClampNeg, Int.reduceLT, Int.reduceLE, Int.reduceNeg, true_and, and_true, or_self, or_false, false_or, false_and, and_false, true_or, or_true, if_true, if_false, ne_eq, Classical.not_not, not_true_eq_false, not_false_eq_true, true_implies, false_implies, implies_true, Nat.reduceEqDiff, Nat.reduceAdd, Nat.reduceLeDiff, Nat.reduceSub, reduceCtorEq, reduceIte, b274_26]
        exact P
  have go := loop mt.length 0 (Nat.zero_add _) (fun k hk => by omega)
  unfold aEv
  simp only [lv_args, z_v, z_lg, z_h, z_u, z_u1, z_c, z_ct, z_sk, sbne, lst1_d, ldel, lst2_d, ldel2, z_sw, z_rok, zi, eq_self, List.map_cons, List.map_nil, List.append_nil, List.nil_append, List.cons_append, Int32.reduceLT, Int32.reduceLE, Int32.reduceAdd, Int32.reduceSub, Int32.reduceMul, Int32.reduceToInt, Int32.reduceToNatClampNeg, Int.reduceLT, Int.reduceLE, Int.reduceNeg, true_and, and_true, or_self, or_false, false_or, false_and, and_false, true_or, or_true, if_true, if_false, ne_eq, Classical.not_not, not_true_eq_false, not_false_eq_true, true_implies, false_implies, implies_true, Nat.reduceEqDiff, Nat.reduceAdd, Nat.reduceLeDiff, Nat.reduceSub, reduceCtorEq, reduceIte, b274_0]
  exact go
/-- are these the signs of a name -/
theorem sp_isName {k j p e a b : Nat} (m : SMt t n q h0) (ky : KS q h0 h) (M : MTn t n K mt q h) (hk : mt[k]? = some j) (hpe : p ≤ e) (hen : e ≤ n) (hab : a ≤ b) (hbn : b ≤ n) (e8 : hA h (q + 8) k = nI a) (e9 : hA h (q + 9) k = nI (b - a)) (hq : Q (some (.int (bI (decide (sN t a b = sN t p e))))) h) : aEv d 222 [.ref 59, .int (nI k), .ref 61, .int (nI p), .int (nI (e - p))] h Q := by
  have m1 := sm_k ky m
  have s := m1.1.1
  have hq66 := sm_q m
  have R := sm_R m1
  have sw := sq s hq66
  have nn := nq m1.1.2 hq66
  obtain ⟨x1, x2, x3, x4⟩ := m1.2.2
  have n61 : hN h 61 = 3000 := m1.1.2.1.2 (61, 3000) (by decide)
  obtain ⟨⟨M1, M2, M3⟩, M4, M5, M6, M7, M8⟩ := M
  have hkl := g_lt hk
  have c2 : (k < 3000) = True := eq_true (by omega)
  have eb0 : bI false = 0 := rfl
  have eb1 : bI true = 1 := rfl
  unfold aEv
  simp only [lv_args, z_v, z_lg, z_h, z_u, z_u1, z_c, z_ct, z_sk, sbne, lst1_d, ldel, lst2_d, ldel2, z_sw, z_rok, zi, eq_self, List.map_cons, List.map_nil, List.append_nil, List.nil_append, List.cons_append, Int32.reduceLT, Int32.reduceLE, Int32.reduceAdd, Int32.reduceSub, Int32.reduceMul, Int32.reduceToInt, Int32.reduceToNatClampNeg, Int.reduceLT, Int.reduceLE, Int.reduceNeg, true_and, and_true, or_self, or_false, false_or, false_and, and_false, true_or, or_true, if_true, if_false, ne_eq, Classical.not_not, not_true_eq_false, not_false_eq_true, true_implies, false_implies, implies_true, Nat.reduceEqDiff, Nat.reduceAdd, Nat.reduceLeDiff, Nat.reduceSub, reduceCtorEq, reduceIte, b222_0, skM s, srM s, R, sw, nn]
  simp (disch := omega) only [nI_ti, nI_cl, le0N, ltNN, c2, e9, true_and]
  try simp only [lv_args, z_v, z_lg, z_h, z_u, z_u1, z_c, z_ct, z_sk, sbne, lst1_d, ldel, lst2_d, ldel2, z_sw, z_rok, zi, eq_self, List.map_cons, List.map_nil, List.append_nil, List.nil_append, List.cons_append, Int32.reduceLT, Int32.reduceLE, Int32.reduceAdd, Int32.reduceSub, Int32.reduceMul, Int32.reduceToInt, Int32.reduceToNatClampNeg, Int.reduceLT, Int.reduceLE, Int.reduceNeg, true_and, and_true, or_self, or_false, false_or, false_and, and_false, true_or, or_true, if_true, if_false, ne_eq, Classical.not_not, not_true_eq_false, not_false_eq_true, true_implies, false_implies, implies_true, Nat.reduceEqDiff, Nat.reduceAdd, Nat.reduceLeDiff, Nat.reduceSub, reduceCtorEq, reduceIte, b222_0]
  simp (disch := omega) only [nI_eqN]
  refine ⟨fun c => ?_, fun c => ?_⟩
  · -- as many
    have loop : ∀ (r i : Nat), i + r = e - p → sN t a (a + i) = sN t p (p + i) → aWP d 222 19 [(5, .int (nI i)), (0, .ref 59), (1, .int (nI k)), (2, .ref 61), (3, .int (nI p)), (4, .int (nI (e - p)))] [] h Q := by
      intro r
      induction r with
      | zero =>
        intro i hi hs
        have hi : i = e - p := hi
        rw [show a + i = b by omega, show p + i = e by omega] at hs
        rw [decide_eq_true hs, eb1] at hq
        simp only [lv_args, z_v, z_lg, z_h, z_u, z_u1, z_c, z_ct, z_sk, sbne, lst1_d, ldel, lst2_d, ldel2, z_sw, z_rok, zi, eq_self, List.map_cons, List.map_nil, List.append_nil, List.nil_append, List.cons_append, Int32.reduceLT, Int32.reduceLE, Int32.reduceAdd, Int32.reduceSub, Int32.reduceMul, Int32.reduceToInt, Int32.reduceToNatClampNeg, Int.reduceLT, Int.reduceLE, Int.reduceNeg, true_and, and_true, or_self, or_false, false_or, false_and, and_false, true_or, or_true, if_true, if_false, ne_eq, Classical.not_not, not_true_eq_false, not_false_eq_true, true_implies, false_implies, implies_true, Nat.reduceEqDiff, Nat.reduceAdd, Nat.reduceLeDiff, Nat.reduceSub, reduceCtorEq, reduceIte, b222_19]
        simp (disch := omega) only [nI_leN]
        refine ⟨fun _ => ?_, fun c => absurd (by omega) c⟩
        simp only [lv_args, z_v, z_lg, z_h, z_u, z_u1, z_c, z_ct, z_sk, sbne, lst1_d, ldel, lst2_d, ldel2, z_sw, z_rok, zi, eq_self, List.map_cons, List.map_nil, List.append_nil, List.nil_append, List.cons_append, Int32.reduceLT, Int32.reduceLE, Int32.reduceAdd, Int32.reduceSub, Int32.reduceMul, Int32.reduceToInt, Int32.reduceToNatClampNeg, Int.reduceLT, Int.reduceLE, Int.reduceNeg, true_and, and_true, or_self, or_false, false_or, false_and, and_false, true_or, or_true, if_true, if_false, ne_eq, Classical.not_not, not_true_eq_false, not_false_eq_true, true_implies, false_implies, implies_true, Nat.reduceEqDiff, Nat.reduceAdd, Nat.reduceLeDiff, Nat.reduceSub, reduceCtorEq, reduceIte, b222_63]
        exact hq
      | succ r ih =>
        intro i hi hs
        have c3 : (a + i < 3000) = True := eq_true (by omega)
        have c4 : (p + i < 3000) = True := eq_true (by omega)
        have e13 := M5 (a + i) (by omega)
        have e61 := x3 (p + i) (by omega)
        simp only [lv_args, z_v, z_lg, z_h, z_u, z_u1, z_c, z_ct, z_sk, sbne, lst1_d, ldel, lst2_d, ldel2, z_sw, z_rok, zi, eq_self, List.map_cons, List.map_nil, List.append_nil, List.nil_append, List.cons_append, Int32.reduceLT, Int32.reduceLE, Int32.reduceAdd, Int32.reduceSub, Int32.reduceMul, Int32.reduceToInt, Int32.reduceToNatClampNeg, Int.reduceLT, Int.reduceLE, Int.reduceNeg, true_and, and_true, or_self, or_false, false_or, false_and, and_false, true_or, or_true, if_true, if_false, ne_eq, Classical.not_not, not_true_eq_false, not_false_eq_true, true_implies, false_implies, implies_true, Nat.reduceEqDiff, Nat.reduceAdd, Nat.reduceLeDiff, Nat.reduceSub, reduceCtorEq, reduceIte, b222_19]
        simp (disch := omega) only [nI_leN]
        refine ⟨fun c => absurd c (by omega), fun _ => ?_⟩
        simp only [lv_args, z_v, z_lg, z_h, z_u, z_u1, z_c, z_ct, z_sk, sbne, lst1_d, ldel, lst2_d, ldel2, z_sw, z_rok, zi, eq_self, List.map_cons, List.map_nil, List.append_nil, List.nil_append, List.cons_append, Int32.reduceLT, Int32.reduceLE, Int32.reduceAdd, Int32.reduceSub, Int32.reduceMul, Int32.reduceToInt, Int32.reduceToNatClampNeg, Int.reduceLT, Int.reduceLE, Int.reduceNeg, true_and, and_true, or_self, or_false, false_or, false_and, and_false, true_or, or_true, if_true, if_false, ne_eq, Classical.not_not, not_true_eq_false, not_false_eq_true, true_implies, false_implies, implies_true, Nat.reduceEqDiff, Nat.reduceAdd, Nat.reduceLeDiff, Nat.reduceSub, reduceCtorEq, reduceIte, b222_26, skM s, srM s, R, sw, nn, n61]
        simp (disch := omega) only [nI_ti, nI_cl, le0N, ltNN, c2, e8, nI_add, true_and]
        try simp only [lv_args, z_v, z_lg, z_h, z_u, z_u1, z_c, z_ct, z_sk, sbne, lst1_d, ldel, lst2_d, ldel2, z_sw, z_rok, zi, eq_self, List.map_cons, List.map_nil, List.append_nil, List.nil_append, List.cons_append, Int32.reduceLT, Int32.reduceLE, Int32.reduceAdd, Int32.reduceSub, Int32.reduceMul, Int32.reduceToInt, Int32.reduceToNatClampNeg, Int.reduceLT, Int.reduceLE, Int.reduceNeg, true_and, and_true, or_self, or_false, false_or, false_and, and_false, true_or, or_true, if_true, if_false, ne_eq, Classical.not_not, not_true_eq_false, not_false_eq_true, true_implies, false_implies, implies_true, Nat.reduceEqDiff, Nat.reduceAdd, Nat.reduceLeDiff, Nat.reduceSub, reduceCtorEq, reduceIte, b222_26, skM s, srM s, R, sw, nn, n61, nI_add]
        try simp (disch := omega) only [nI_ti, nI_cl, le0N, ltNN, c3, c4, e13, e61, true_and]
        try simp only [lv_args, z_v, z_lg, z_h, z_u, z_u1, z_c, z_ct, z_sk, sbne, lst1_d, ldel, lst2_d, ldel2, z_sw, z_rok, zi, eq_self, List.map_cons, List.map_nil, List.append_nil, List.nil_append, List.cons_append, Int32.reduceLT, Int32.reduceLE, Int32.reduceAdd, Int32.reduceSub, Int32.reduceMul, Int32.reduceToInt, Int32.reduceToNatClampNeg, Int.reduceLT, Int.reduceLE, Int.reduceNeg, true_and, and_true, or_self, or_false, false_or, false_and, and_false, true_or, or_true, if_true, if_false, ne_eq, Classical.not_not, not_true_eq_false, not_false_eq_true, true_implies, false_implies, implies_true, Nat.reduceEqDiff, Nat.reduceAdd, Nat.reduceLeDiff, Nat.reduceSub, reduceCtorEq, reduceIte, b222_26, skM s, srM s, R, sw, nn, n61, nI_add]
        try simp (disch := omega) only [nI_ti, nI_cl, le0N, ltNN, c3, c4, e13, e61, true_and]
        rw [rb_inj (x4 _) (x4 _)]
        refine ⟨fun ce => ?_, fun ce => ?_⟩
        · have go := ih (i + 1) (by omega) (by rw [← Nat.add_assoc, ← Nat.add_assoc, sN_s (by omega), sN_s (by omega), hs, ce])
          simp only [lv_args, z_v, z_lg, z_h, z_u, z_u1, z_c, z_ct, z_sk, sbne, lst1_d, ldel, lst2_d, ldel2, z_sw, z_rok, zi, eq_self, List.map_cons, List.map_nil, List.append_nil, List.nil_append, List.cons_append, Int32.reduceLT, Int32.reduceLE, Int32.reduceAdd, Int32.reduceSub, Int32.reduceMul, Int32.reduceToInt, Int32.reduceToNatClampNeg, Int.reduceLT, Int.reduceLE, Int.reduceNeg, true_and, and_true, or_self, or_false, false_or, false_and, and_false, true_or, or_true, if_true, if_false, ne_eq, Classical.not_not, not_true_eq_false, not_false_eq_true, true_implies, false_implies, implies_true, Nat.reduceEqDiff, Nat.reduceAdd, Nat.reduceLeDiff, Nat.reduceSub, reduceCtorEq, reduceIte, b222_57, nI_s]
          exact go
        · have hne : ¬ sN t a b = sN t p e := fun w => by
            have h1 : (sN t a b)[i]? = some (t (a + i)) := by
              unfold sN
              rw [List.getElem?_map, List.getElem?_range (by omega)]; rfl
            have h2 : (sN t p e)[i]? = some (t (p + i)) := by
              unfold sN
              rw [List.getElem?_map, List.getElem?_range (by omega)]; rfl
            rw [w, h2] at h1
            injection h1 with h1
            exact ce h1.symm
          rw [decide_eq_false hne, eb0] at hq
          simp only [lv_args, z_v, z_lg, z_h, z_u, z_u1, z_c, z_ct, z_sk, sbne, lst1_d, ldel, lst2_d, ldel2, z_sw, z_rok, zi, eq_self, List.map_cons, List.map_nil, List.append_nil, List.nil_append, List.cons_append, Int32.reduceLT, Int32.reduceLE, Int32.reduceAdd, Int32.reduceSub, Int32.reduceMul, Int32.reduceToInt, Int32.reduceToNatClampNeg, Int.reduceLT, Int.reduceLE, Int.reduceNeg, true_and, and_true, or_self, or_false, false_or, false_and, and_false, true_or, or_true, if_true, if_false, ne_eq, Classical.not_not, not_true_eq_false, not_false_eq_true, true_implies, false_implies, implies_true, Nat.reduceEqDiff, Nat.reduceAdd, Nat.reduceLeDiff, Nat.reduceSub, reduceCtorEq, reduceIte, b222_55]
          exact hq
    have go := loop (e - p) 0 (Nat.zero_add _) (by
      unfold sN
      rw [show a + 0 - a = 0 by omega, show p + 0 - p = 0 by omega]; rfl)
    simp only [lv_args, z_v, z_lg, z_h, z_u, z_u1, z_c, z_ct, z_sk, sbne, lst1_d, ldel, lst2_d, ldel2, z_sw, z_rok, zi, eq_self, List.map_cons, List.map_nil, List.append_nil, List.nil_append, List.cons_append, Int32.reduceLT, Int32.reduceLE, Int32.reduceAdd, Int32.reduceSub, Int32.reduceMul, Int32.reduceToInt, Int32.reduceToNatClampNeg, Int.reduceLT, Int.reduceLE, Int.reduceNeg, true_and, and_true, or_self, or_false, false_or, false_and, and_false, true_or, or_true, if_true, if_false, ne_eq, Classical.not_not, not_true_eq_false, not_false_eq_true, true_implies, false_implies, implies_true, Nat.reduceEqDiff, Nat.reduceAdd, Nat.reduceLeDiff, Nat.reduceSub, reduceCtorEq, reduceIte, b222_16]
    exact go
  · have hne : ¬ sN t a b = sN t p e := fun w => by
      have := congrArg List.length w
      rw [sN_len, sN_len] at this
      exact c this
    rw [decide_eq_false hne, eb0] at hq
    simp only [lv_args, z_v, z_lg, z_h, z_u, z_u1, z_c, z_ct, z_sk, sbne, lst1_d, ldel, lst2_d, ldel2, z_sw, z_rok, zi, eq_self, List.map_cons, List.map_nil, List.append_nil, List.nil_append, List.cons_append, Int32.reduceLT, Int32.reduceLE, Int32.reduceAdd, Int32.reduceSub, Int32.reduceMul, Int32.reduceToInt, Int32.reduceToNatClampNeg, Int.reduceLT, Int.reduceLE, Int.reduceNeg, true_and, and_true, or_self, or_false, false_or, false_and, and_false, true_or, or_true, if_true, if_false, ne_eq, Classical.not_not, not_true_eq_false, not_false_eq_true, true_implies, false_implies, implies_true, Nat.reduceEqDiff, Nat.reduceAdd, Nat.reduceLeDiff, Nat.reduceSub, reduceCtorEq, reduceIte, b222_14]
    exact hq
end MNM
