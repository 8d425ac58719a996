/-! BUILD. The reference's analysis: what the heap holds while it works -/
def YA (q a : Nat) : Prop := a = q + 6 ∨ a = q + 7 ∨ (q + 14 ≤ a ∧ a ≤ q + 19) ∨ (106 ≤ a ∧ a ≤ 111)
def YI (q a i : Nat) : Prop := (a = 59 ∧ (i = 15 ∨ i = 16 ∨ i = 23 ∨ i = 24 ∨ i = 27)) ∨ (a = q ∧ i = 5)
def KYf (q : Nat) (h0 h : Hp) : Prop := (hK h = hK h0 ∧ hR h = hR h0 ∧ hN h = hN h0 ∧ hn h = hn h0 ∧ hu h = hu h0 ∧ hv h = hv h0 ∧ hL h = hL h0 ∧ hB h = hB h0) ∧ (∀ a i, ¬ YI q a i → hI h a i = hI h0 a i) ∧ ∀ a, ¬ YA q a → hA h a = hA h0 a
/-- meanings and numbers of nodes -/
def MN (N : NS) (q : Nat) (y : MR) (h : Hp) : Prop := ∀ i, i + 1 < N.1 → hA h (q + 6) i = mMe y i ∧ hA h (q + 7) i = mNu y i
/-- what is in sight -/
def MSx (mt : List Nat) (y : MR) (h : Hp) : Prop := hI h 59 23 = nI (mSg y).length ∧ (mSg y).length ≤ 250 ∧ ∀ (i : Nat) (e : SGe), (mSg y)[i]? = some e → (e.1 ∈ mt ∧ hA h 106 i = nI (mt.idxOf e.1)) ∧ hA h 107 i = nI e.2.1 ∧ hA h 108 i = nI e.2.2
def MLx (y : MR) (h : Hp) : Prop := hI h 59 27 = nI (mLv y) ∧ mLv y ≤ 31 ∧ ∀ l, l ≤ mLv y → hA h 109 l = nI (mAr y l) ∧ hA h 110 l = nI (mSl y l)
def MGx (q : Nat) (y : MR) (h : Hp) : Prop := hI h q 5 = nI (mLa y) ∧ (∀ M, 1 ≤ M → M ≤ mLa y → hA h (q + 14) M = nI (mNd y M) ∧ hA h (q + 15) M = nI (mNm y M)) ∧ (∀ M, M ≤ mLa y → hA h (q + 16) M = nI (mLs y M) ∧ hA h (q + 17) M = nI (mFe y M).length) ∧ (∀ M, 1 ≤ M → M ≤ mLa y → M ≤ 120 → ∀ (k : Nat) (e : SGe), (mFe y M)[k]? = some e → hA h (q + 18) (256 * M + k) = nI e.2.1 ∧ hA h (q + 19) (256 * M + k) = nI e.2.2) ∧ ∀ l, 1 ≤ l → l ≤ mLv y → ∀ (k : Nat) (e : SGe), (mFe y (mAr y l))[k]? = some e → hA h 111 (256 * l + k) = nI e.1
def MWx (y : MR) (h : Hp) : Prop := hI h 59 24 = nI (mFm y) ∧ (mWr y = none → hI h 59 15 = 0) ∧ ∀ k p, mWr y = some (k, p) → hI h 59 15 = nI k ∧ hI h 59 16 = nI p ∧ 0 < k ∧ k < 10 ∧ p < 1000000
def MH (N : NS) (mt : List Nat) (q : Nat) (h0 : Hp) (y : MR) (h : Hp) : Prop := KYf q h0 h ∧ MN N q y h ∧ MSx mt y h ∧ MLx y h ∧ MGx q y h ∧ MWx y h
/-- what stays: the tree, and what each name is defined as -/
def MD (N : NS) (mt : List Nat) (q : Nat) (h0 : Hp) : Prop := MC N mt q h0 ∧ (∀ j, j ∈ mt → hA h0 (q + 11) (mt.idxOf j) = dA N j) ∧ mt.Nodup ∧ (gdf N).length ≤ 7000 ∧ ∀ i, 1 ≤ i → i < N.1 → nP N i = nI (nQ N i) ∧ nQ N i < 3001
/-- room for what is still to come -/
def MW (g a b : Nat) (y : MR) : Prop := FI y ∧ (mSg y).length + 8 * g ≤ 250 ∧ mLv y + g ≤ 31 ∧ mSl y (mLv y) + 8 * g ≤ 250 ∧ (∀ M, M ≤ mLa y → mLs y M ≤ 250) ∧ (∀ M, 1 ≤ M → M ≤ mLa y → (mFe y M).length ≤ 250) ∧ mFm y + b ≤ 6100 + a ∧ 3 * mLa y + b ≤ 6100 + a ∧ mAr y 0 = 0
section MRL
variable {h h' h0 : Hp} {Q : Option Value → Hp → Prop} {d n q g a b : Nat} {N : NS} {mt : List Nat} {y : MR}
theorem ky_I {a i : Nat} {v : Int32} (k : KYf q h0 h) (ha : YI q a i) : KYf q h0 (pI h a i v) := ⟨k.1, fun x j hx => (up2_ne (fun e => hx (by rw [e.1, e.2]; exact ha))).trans (k.2.1 x j hx), k.2.2⟩
theorem ky_A {a : Nat} {f : Nat → Int32} (k : KYf q h0 h) (ha : YA q a) : KYf q h0 (pA h a f) := ⟨k.1, k.2.1, fun x hx => (up1_ne (fun e => hx (by rw [e]; exact ha))).trans (k.2.2 x hx)⟩
theorem mc_k (k : KYf q h0 h) (m : MC N mt q h0) : MC N mt q h := by
  obtain ⟨⟨s, r⟩, yy, tm, nk⟩ := m
  have hq : q = 66 ∨ q = 86 := yy.elim (fun w => Or.inl w.1) (fun w => Or.inr w.1)
  refine ⟨⟨(sk_same k.1.1 k.1.2.1 k.1.2.2.2.1 : Sk _ = Sk h0) ▸ s, rm_same k.1.2.2.1 k.1.2.2.2.1 k.1.2.2.2.2.1 r⟩, ?_, ?_, nk⟩
  · unfold YY; rw [k.1.2.1]; exact yy
  · unfold TM
    rw [k.2.2 (q + 1) (by unfold YA; omega), k.2.2 (q + 2) (by unfold YA; omega), k.2.2 (q + 3) (by unfold YA; omega), k.2.2 (q + 4) (by unfold YA; omega), k.2.2 (q + 5) (by unfold YA; omega), k.2.2 (q + 10) (by unfold YA; omega), k.2.1 q 3 (by unfold YI; omega)]
    exact tm
theorem md_m (md : MD N mt q h0) (H : MH N mt q h0 y h) : MC N mt q h := mc_k H.1 md.1
theorem ar_lt (fi : FI y) {l : Nat} (h : l ≤ mLv y) : mAr y l ≤ mLa y := fi.2.2.1 l h
/-- a fault is told -/
theorem sp_wr {k p : Nat} {k' p' : Int32} (md : MD N mt q h0) (H : MH N mt q h0 y h) (ek : k' = nI k) (ep : p' = nI p) (hk : 0 < k ∧ k < 10) (hp : p < 1000000) (hq : ∀ h', MH N mt q h0 (mW k p y) h' → Q none h') : aEv d 278 [.ref 59, .int k', .int p'] h Q := by
  subst ek
  subst ep
  have hq66 := mc_q md.1
  have m := md_m md H
  obtain ⟨ky, mn, ms, ml, mg, ⟨w1, w2, w3⟩⟩ := H
  have z0 : (0 : Int32) = nI 0 := rfl
  have new : wMn (mWr y) k p = some (k, p) → Q none (pI (pI h 59 15 (nI k)) 59 16 (nI p)) := fun e => by
    refine hq _ ⟨ky_I (ky_I ky (by unfold YI; omega)) (by unfold YI; omega), mn, ms, ml, ?_, ⟨w1, fun c => ?_, fun k2 p2 c => ?_⟩⟩
    · rcases hq66 with rfl | rfl <;> exact mg
    · have c : wMn (mWr y) k p = none := c
      rw [e] at c
      cases c
    · have c : wMn (mWr y) k p = some (k2, p2) := c
      rw [e] at c
      injection c with c
      injection c with c1 c2
      subst c1
      subst c2
      exact ⟨rfl, rfl, hk.1, hk.2, hp⟩
  have old : wMn (mWr y) k p = mWr y → Q none h := fun e => by
    refine hq _ ⟨ky, mn, ms, ml, mg, ⟨w1, fun c => ?_, fun k2 p2 c => ?_⟩⟩
    · have c : wMn (mWr y) k p = none := c
      rw [e] at c
      exact w2 c
    · have c : wMn (mWr y) k p = some (k2, p2) := c
      rw [e] at c
      exact w3 k2 p2 c
  rw [e278_59 _ _ m.1.1]
  cases hw : mWr y with
  | none =>
    rw [w2 hw]
    refine ⟨fun _ => new (by rw [hw]; rfl), fun c => absurd (by decide) c⟩
  | some x =>
    obtain ⟨k0, p0⟩ := x
    obtain ⟨u1, u2, u3, u4, u5⟩ := w3 k0 p0 hw
    rw [u1, u2, le_0N (by omega), nI_ltN (by omega) (by omega), nI_eqN (by omega) (by omega), nI_ltN (by omega) (by omega)]
    have hw2 : wMn (mWr y) k p = if p0 < p ∨ (p0 = p ∧ k0 ≤ k) then some (k0, p0) else some (k, p) := by rw [hw]; rfl
    refine ⟨fun c => absurd c (by omega), fun _ => ⟨fun c => old (by rw [hw2, if_pos (Or.inl c), hw]), fun c => ⟨fun c2 => new (by rw [hw2, if_neg (by omega)]), fun c2 => ⟨fun c3 => new (by rw [hw2, if_neg (by omega)]), fun c3 => old (by rw [hw2, if_pos (by omega), hw])⟩⟩⟩⟩
/-- the same, where only what was told is known -/
theorem sp_wr1 {k p : Nat} {k' p' : Int32} (s : Sk h) (mw : MWx y h) (ek : k' = nI k) (ep : p' = nI p) (hk : 0 < k ∧ k < 10) (hp : p < 1000000) (q1 : wMn (mWr y) k p = mWr y → Q none h) (q2 : wMn (mWr y) k p = some (k, p) → Q none (pI (pI h 59 15 (nI k)) 59 16 (nI p))) : aEv d 278 [.ref 59, .int k', .int p'] h Q := by
  subst ek
  subst ep
  obtain ⟨w1, w2, w3⟩ := mw
  rw [e278_59 _ _ s]
  cases hw : mWr y with
  | none =>
    rw [w2 hw]
    refine ⟨fun _ => q2 (by rw [hw]; rfl), fun c => absurd (by decide) c⟩
  | some x =>
    obtain ⟨k0, p0⟩ := x
    obtain ⟨u1, u2, u3, u4, u5⟩ := w3 k0 p0 hw
    rw [u1, u2, le_0N (by omega), nI_ltN (by omega) (by omega), nI_eqN (by omega) (by omega), nI_ltN (by omega) (by omega)]
    have hw2 : wMn (mWr y) k p = if p0 < p ∨ (p0 = p ∧ k0 ≤ k) then some (k0, p0) else some (k, p) := by rw [hw]; rfl
    refine ⟨fun c => absurd c (by omega), fun _ => ⟨fun c => q1 (by rw [hw2, if_pos (Or.inl c), hw]), fun c => ⟨fun c2 => q2 (by rw [hw2, if_neg (by omega)]), fun c2 => ⟨fun c3 => q2 (by rw [hw2, if_neg (by omega)]), fun c3 => q1 (by rw [hw2, if_pos (by omega), hw])⟩⟩⟩⟩
/-- names of the reference are alike just if the others are -/
theorem idx_inj (nd : mt.Nodup) {i j : Nat} (hi : i ∈ mt) (hj : j ∈ mt) (h : mt.idxOf i = mt.idxOf j) : i = j := by
  have h1 := List.getElem_idxOf (List.idxOf_lt_length_iff.mpr hi)
  have h2 := List.getElem_idxOf (List.idxOf_lt_length_iff.mpr hj)
  rw [← h1, ← h2]
  congr 1
theorem idx_eq (md : MD N mt q h0) {i j : Nat} (hi : i ∈ mt) (hj : j ∈ mt) : (nI (mt.idxOf i) = nI (mt.idxOf j)) = (i = j) := by
  have b1 := (md.1.2.2.1.2.1 i hi).1
  have b2 := (md.1.2.2.1.2.1 j hj).1
  rw [nI_eqN (by omega) (by omega)]
  exact propext ⟨idx_inj md.2.2.1 hi hj, fun e => by rw [e]⟩
/-- the word of a name: 0 none -/
theorem w_eq (md : MD N mt q h0) {j : Nat} : (nI (if j < 30 then j + 1 else 0) = 0) = (30 ≤ j) := by
  have z0 : (0 : Int32) = nI 0 := rfl
  by_cases c : j < 30
  · rw [if_pos c, z0, nI_eqN (by omega) (by omega)]
    exact propext ⟨fun e => by omega, fun e => by omega⟩
  · rw [if_neg c]
    exact propext ⟨fun _ => by omega, fun _ => rfl⟩
theorem md_p (md : MD N mt q h0) (H : MH N mt q h0 y h) (h1 : 1 ≤ n) (hn : n < N.1) : hA h (q + 3) (n - 1) = nI (nQ N n) ∧ nQ N n < 1000000 := by
  obtain ⟨p1, p2⟩ := md.2.2.2.2 n h1 hn
  exact ⟨((md_m md H).2.2.1.1 n h1 hn).2.2.1.trans p1, by omega⟩
/-- a name is bound -/
theorem sp_binds {w0 : Nat} (md : MD N mt q h0) (H : MH N mt q h0 y h) (h1 : 1 ≤ n) (hn : n < N.1) (h5 : nK N n = 5) (hw0 : w0 ≤ (mSg y).length) (hd : 1 < d) (hq : ∀ h', MH N mt q h0 (mBs N n w0 y) h' → Q none h') : aEv d 187 [.ref 59, .int (nI (n - 1)), .int (nI w0)] h Q := by
  have h00 : 0 < d := by omega
  have m := md_m md H
  have s := m.1.1
  have w := sq s (mc_q m)
  have R := mc_R m
  have nn := nq m.1.2 (mc_q m)
  have hN1 := m.2.2.2.2.2
  obtain ⟨j, hj, ej, ej2, hj3⟩ := nok_name m.2.2.2 h1 hn h5
  have ev : hA h (q + 2) (n - 1) = nI (mt.idxOf j) := by rw [(m.2.2.1.1 n h1 hn).2.1, if_pos h5, ej2]
  obtain ⟨jw1, jw2⟩ := m.2.2.1.2.1 j hj
  obtain ⟨pp1, pp2⟩ := md_p md H h1 hn
  obtain ⟨ms1, ms2, ms3⟩ := H.2.2.1
  have n106 : hN h 106 = 6200 := m.1.2.1.2 (106, 6200) (by decide)
  have z10 : ¬ (1 : Int32) = 0 := by decide
  have eb0 : bI false = 0 := rfl
  have eb1 : bI true = 1 := rfl
  have c2 : (n - 1 < 6200) = True := eq_true (by omega)
  have c3 : (mt.idxOf j < 3000) = True := eq_true jw1
  unfold mBs at hq
  rw [ej2] at hq
  have tell : (j < 30 ∨ j ∈ ((mSg y).drop w0).map (·.1)) → ∀ x4 x5 : Int32, aWP d 187 73 [(5, .int x5), (4, .int x4), (3, .ref q), (0, .ref 59), (1, .int (nI (n - 1))), (2, .int (nI w0))] [] h Q := fun hc x4 x5 => by
    rw [if_pos hc] at hq
    simp only [lv_args, z_v, z_lg, z_h, z_u, z_u1, z_c, z_ct, z_sk, sbne, lst1_d, ldel, lst2_d, ldel2, z_sw, z_rok, zi, eq_self, List.map_cons, List.map_nil, List.append_nil, List.nil_append, List.cons_append, Int32.reduceLT, Int32.reduceLE, Int32.reduceAdd, Int32.reduceSub, Int32.reduceMul, Int32.reduceToInt, Int32.reduceToNatClampNeg, Int.reduceLT, Int.reduceLE, Int.reduceNeg, true_and, and_true, or_self, or_false, false_or, false_and, and_false, true_or, or_true, if_true, if_false, ne_eq, Classical.not_not, not_true_eq_false, not_false_eq_true, true_implies, false_implies, implies_true, Nat.reduceEqDiff, Nat.reduceAdd, Nat.reduceLeDiff, Nat.reduceSub, reduceCtorEq, reduceIte, b187_73, skM s, srM s, R, w, nn, h00]
    simp (disch := omega) only [nI_ti, nI_cl, le0N, ltNN, c2, pp1, true_and]
    try simp only [lv_args, z_v, z_lg, z_h, z_u, z_u1, z_c, z_ct, z_sk, sbne, lst1_d, ldel, lst2_d, ldel2, z_sw, z_rok, zi, eq_self, List.map_cons, List.map_nil, List.append_nil, List.nil_append, List.cons_append, Int32.reduceLT, Int32.reduceLE, Int32.reduceAdd, Int32.reduceSub, Int32.reduceMul, Int32.reduceToInt, Int32.reduceToNatClampNeg, Int.reduceLT, Int.reduceLE, Int.reduceNeg, true_and, and_true, or_self, or_false, false_or, false_and, and_false, true_or, or_true, if_true, if_false, ne_eq, Classical.not_not, not_true_eq_false, not_false_eq_true, true_implies, false_implies, implies_true, Nat.reduceEqDiff, Nat.reduceAdd, Nat.reduceLeDiff, Nat.reduceSub, reduceCtorEq, reduceIte, b187_73, skM s, w, h00]
    refine sp_wr (k := 5) (p := nQ N n) md H rfl rfl (by decide) pp2 (fun h' H' => ?_)
    have s' := (md_m md H').1.1
    have w' := sq s' (mc_q m)
    simp only [lv_args, z_v, z_lg, z_h, z_u, z_u1, z_c, z_ct, z_sk, sbne, lst1_d, ldel, lst2_d, ldel2, z_sw, z_rok, zi, eq_self, List.map_cons, List.map_nil, List.append_nil, List.nil_append, List.cons_append, Int32.reduceLT, Int32.reduceLE, Int32.reduceAdd, Int32.reduceSub, Int32.reduceMul, Int32.reduceToInt, Int32.reduceToNatClampNeg, Int.reduceLT, Int.reduceLE, Int.reduceNeg, true_and, and_true, or_self, or_false, false_or, false_and, and_false, true_or, or_true, if_true, if_false, ne_eq, Classical.not_not, not_true_eq_false, not_false_eq_true, true_implies, false_implies, implies_true, Nat.reduceEqDiff, Nat.reduceAdd, Nat.reduceLeDiff, Nat.reduceSub, reduceCtorEq, reduceIte, b187_73, b187_84, skM s, skM s', w, w', Nat.reduceLT]
    exact hq h' H'
  have fin : ∀ (x5 : Int32) (f : Bool), (f = true ↔ j ∈ ((mSg y).drop w0).map (·.1)) → aWP d 187 54 [(5, .int x5), (4, .int (bI f)), (3, .ref q), (0, .ref 59), (1, .int (nI (n - 1))), (2, .int (nI w0))] [] h Q := by
    intro x5 f hf
    cases f with
    | true =>
      have t := tell (Or.inr (hf.mp rfl)) 1 x5
      simp only [lv_args, z_v, z_lg, z_h, z_u, z_u1, z_c, z_ct, z_sk, sbne, lst1_d, ldel, lst2_d, ldel2, z_sw, z_rok, zi, eq_self, List.map_cons, List.map_nil, List.append_nil, List.nil_append, List.cons_append, Int32.reduceLT, Int32.reduceLE, Int32.reduceAdd, Int32.reduceSub, Int32.reduceMul, Int32.reduceToInt, Int32.reduceToNatClampNeg, Int.reduceLT, Int.reduceLE, Int.reduceNeg, true_and, and_true, or_self, or_false, false_or, false_and, and_false, true_or, or_true, if_true, if_false, ne_eq, Classical.not_not, not_true_eq_false, not_false_eq_true, true_implies, false_implies, implies_true, Nat.reduceEqDiff, Nat.reduceAdd, Nat.reduceLeDiff, Nat.reduceSub, reduceCtorEq, reduceIte, b187_54, eb1, z10]
      exact t
    | false =>
      have nf : j ∉ ((mSg y).drop w0).map (·.1) := fun c => by
        have := hf.mpr c
        cases this
      simp only [lv_args, z_v, z_lg, z_h, z_u, z_u1, z_c, z_ct, z_sk, sbne, lst1_d, ldel, lst2_d, ldel2, z_sw, z_rok, zi, eq_self, List.map_cons, List.map_nil, List.append_nil, List.nil_append, List.cons_append, Int32.reduceLT, Int32.reduceLE, Int32.reduceAdd, Int32.reduceSub, Int32.reduceMul, Int32.reduceToInt, Int32.reduceToNatClampNeg, Int.reduceLT, Int.reduceLE, Int.reduceNeg, true_and, and_true, or_self, or_false, false_or, false_and, and_false, true_or, or_true, if_true, if_false, ne_eq, Classical.not_not, not_true_eq_false, not_false_eq_true, true_implies, false_implies, implies_true, Nat.reduceEqDiff, Nat.reduceAdd, Nat.reduceLeDiff, Nat.reduceSub, reduceCtorEq, reduceIte, b187_54, eb0]
      simp only [lv_args, z_v, z_lg, z_h, z_u, z_u1, z_c, z_ct, z_sk, sbne, lst1_d, ldel, lst2_d, ldel2, z_sw, z_rok, zi, eq_self, List.map_cons, List.map_nil, List.append_nil, List.nil_append, List.cons_append, Int32.reduceLT, Int32.reduceLE, Int32.reduceAdd, Int32.reduceSub, Int32.reduceMul, Int32.reduceToInt, Int32.reduceToNatClampNeg, Int.reduceLT, Int.reduceLE, Int.reduceNeg, true_and, and_true, or_self, or_false, false_or, false_and, and_false, true_or, or_true, if_true, if_false, ne_eq, Classical.not_not, not_true_eq_false, not_false_eq_true, true_implies, false_implies, implies_true, Nat.reduceEqDiff, Nat.reduceAdd, Nat.reduceLeDiff, Nat.reduceSub, reduceCtorEq, reduceIte, b187_59, skM s, srM s, w, nn]
      simp (disch := omega) only [nI_ti, nI_cl, le0N, ltNN, c2, c3, ev, jw2, true_and]
      try simp only [lv_args, z_v, z_lg, z_h, z_u, z_u1, z_c, z_ct, z_sk, sbne, lst1_d, ldel, lst2_d, ldel2, z_sw, z_rok, zi, eq_self, List.map_cons, List.map_nil, List.append_nil, List.nil_append, List.cons_append, Int32.reduceLT, Int32.reduceLE, Int32.reduceAdd, Int32.reduceSub, Int32.reduceMul, Int32.reduceToInt, Int32.reduceToNatClampNeg, Int.reduceLT, Int.reduceLE, Int.reduceNeg, true_and, and_true, or_self, or_false, false_or, false_and, and_false, true_or, or_true, if_true, if_false, ne_eq, Classical.not_not, not_true_eq_false, not_false_eq_true, true_implies, false_implies, implies_true, Nat.reduceEqDiff, Nat.reduceAdd, Nat.reduceLeDiff, Nat.reduceSub, reduceCtorEq, reduceIte, b187_59, skM s, srM s, w, nn]
      try simp (disch := omega) only [nI_ti, nI_cl, le0N, ltNN, c2, c3, ev, jw2, true_and]
      rw [w_eq md]
      refine ⟨fun c => ?_, fun c => tell (Or.inl (by omega)) 0 x5⟩
      rw [if_neg (fun w => w.elim (fun e => by omega) nf)] at hq
      simp only [lv_args, z_v, z_lg, z_h, z_u, z_u1, z_c, z_ct, z_sk, sbne, lst1_d, ldel, lst2_d, ldel2, z_sw, z_rok, zi, eq_self, List.map_cons, List.map_nil, List.append_nil, List.nil_append, List.cons_append, Int32.reduceLT, Int32.reduceLE, Int32.reduceAdd, Int32.reduceSub, Int32.reduceMul, Int32.reduceToInt, Int32.reduceToNatClampNeg, Int.reduceLT, Int.reduceLE, Int.reduceNeg, true_and, and_true, or_self, or_false, false_or, false_and, and_false, true_or, or_true, if_true, if_false, ne_eq, Classical.not_not, not_true_eq_false, not_false_eq_true, true_implies, false_implies, implies_true, Nat.reduceEqDiff, Nat.reduceAdd, Nat.reduceLeDiff, Nat.reduceSub, reduceCtorEq, reduceIte, b187_84]
      exact hq h H
  have loop : ∀ (r i : Nat) (f : Bool), i + r = (mSg y).length → w0 ≤ i → (f = true ↔ j ∈ (((mSg y).take i).drop w0).map (·.1)) → aWP d 187 11 [(5, .int (nI i)), (4, .int (bI f)), (3, .ref q), (0, .ref 59), (1, .int (nI (n - 1))), (2, .int (nI w0))] [] h Q := by
    intro r
    induction r with
    | zero =>
      intro i f hi hw hf
      have hi : i = (mSg y).length := hi
      have go := fin (nI i) f (by rw [hi, List.take_length] at hf; exact hf)
      simp only [lv_args, z_v, z_lg, z_h, z_u, z_u1, z_c, z_ct, z_sk, sbne, lst1_d, ldel, lst2_d, ldel2, z_sw, z_rok, zi, eq_self, List.map_cons, List.map_nil, List.append_nil, List.nil_append, List.cons_append, Int32.reduceLT, Int32.reduceLE, Int32.reduceAdd, Int32.reduceSub, Int32.reduceMul, Int32.reduceToInt, Int32.reduceToNatClampNeg, Int.reduceLT, Int.reduceLE, Int.reduceNeg, true_and, and_true, or_self, or_false, false_or, false_and, and_false, true_or, or_true, if_true, if_false, ne_eq, Classical.not_not, not_true_eq_false, not_false_eq_true, true_implies, false_implies, implies_true, Nat.reduceEqDiff, Nat.reduceAdd, Nat.reduceLeDiff, Nat.reduceSub, reduceCtorEq, reduceIte, b187_11, skM s, ms1]
      simp (disch := omega) only [nI_leN]
      exact ⟨fun _ => go, fun c => absurd (by omega) c⟩
    | succ r ih =>
      intro i f hi hw hf
      have hil : i < (mSg y).length := by omega
      have hx := List.getElem?_eq_getElem hil
      obtain ⟨⟨e1, e2⟩, _⟩ := ms3 i _ hx
      have htk : (((mSg y).take (i + 1)).drop w0).map (·.1) = (((mSg y).take i).drop w0).map (·.1) ++ [((mSg y)[i]).1] := by
        rw [List.take_succ_eq_append_getElem hil, List.drop_append_of_le_length (by rw [List.length_take]; omega), List.map_append]
        rfl
      have c106 : (i < 6200) = True := eq_true (by omega)
      have nx := fun f' hf' => ih (i + 1) f' (by omega) (by omega) hf'
      rw [htk] at nx
      simp only [lv_args, z_v, z_lg, z_h, z_u, z_u1, z_c, z_ct, z_sk, sbne, lst1_d, ldel, lst2_d, ldel2, z_sw, z_rok, zi, eq_self, List.map_cons, List.map_nil, List.append_nil, List.nil_append, List.cons_append, Int32.reduceLT, Int32.reduceLE, Int32.reduceAdd, Int32.reduceSub, Int32.reduceMul, Int32.reduceToInt, Int32.reduceToNatClampNeg, Int.reduceLT, Int.reduceLE, Int.reduceNeg, true_and, and_true, or_self, or_false, false_or, false_and, and_false, true_or, or_true, if_true, if_false, ne_eq, Classical.not_not, not_true_eq_false, not_false_eq_true, true_implies, false_implies, implies_true, Nat.reduceEqDiff, Nat.reduceAdd, Nat.reduceLeDiff, Nat.reduceSub, reduceCtorEq, reduceIte, b187_11, skM s, ms1]
      simp (disch := omega) only [nI_leN]
      refine ⟨fun c => absurd c (by omega), fun _ => ?_⟩
      cases f with
      | true =>
        have go := nx true ⟨fun _ => List.mem_append_left _ (hf.mp rfl), fun _ => rfl⟩
        simp only [eb1] at go
        simp only [lv_args, z_v, z_lg, z_h, z_u, z_u1, z_c, z_ct, z_sk, sbne, lst1_d, ldel, lst2_d, ldel2, z_sw, z_rok, zi, eq_self, List.map_cons, List.map_nil, List.append_nil, List.nil_append, List.cons_append, Int32.reduceLT, Int32.reduceLE, Int32.reduceAdd, Int32.reduceSub, Int32.reduceMul, Int32.reduceToInt, Int32.reduceToNatClampNeg, Int.reduceLT, Int.reduceLE, Int.reduceNeg, true_and, and_true, or_self, or_false, false_or, false_and, and_false, true_or, or_true, if_true, if_false, ne_eq, Classical.not_not, not_true_eq_false, not_false_eq_true, true_implies, false_implies, implies_true, Nat.reduceEqDiff, Nat.reduceAdd, Nat.reduceLeDiff, Nat.reduceSub, reduceCtorEq, reduceIte, b187_20, eb1, z10]
        simp only [lv_args, z_v, z_lg, z_h, z_u, z_u1, z_c, z_ct, z_sk, sbne, lst1_d, ldel, lst2_d, ldel2, z_sw, z_rok, zi, eq_self, List.map_cons, List.map_nil, List.append_nil, List.nil_append, List.cons_append, Int32.reduceLT, Int32.reduceLE, Int32.reduceAdd, Int32.reduceSub, Int32.reduceMul, Int32.reduceToInt, Int32.reduceToNatClampNeg, Int.reduceLT, Int.reduceLE, Int.reduceNeg, true_and, and_true, or_self, or_false, false_or, false_and, and_false, true_or, or_true, if_true, if_false, ne_eq, Classical.not_not, not_true_eq_false, not_false_eq_true, true_implies, false_implies, implies_true, Nat.reduceEqDiff, Nat.reduceAdd, Nat.reduceLeDiff, Nat.reduceSub, reduceCtorEq, reduceIte, b187_41, b187_46, nI_1]
        exact go
      | false =>
        simp only [lv_args, z_v, z_lg, z_h, z_u, z_u1, z_c, z_ct, z_sk, sbne, lst1_d, ldel, lst2_d, ldel2, z_sw, z_rok, zi, eq_self, List.map_cons, List.map_nil, List.append_nil, List.nil_append, List.cons_append, Int32.reduceLT, Int32.reduceLE, Int32.reduceAdd, Int32.reduceSub, Int32.reduceMul, Int32.reduceToInt, Int32.reduceToNatClampNeg, Int.reduceLT, Int.reduceLE, Int.reduceNeg, true_and, and_true, or_self, or_false, false_or, false_and, and_false, true_or, or_true, if_true, if_false, ne_eq, Classical.not_not, not_true_eq_false, not_false_eq_true, true_implies, false_implies, implies_true, Nat.reduceEqDiff, Nat.reduceAdd, Nat.reduceLeDiff, Nat.reduceSub, reduceCtorEq, reduceIte, b187_20, eb0]
        simp only [lv_args, z_v, z_lg, z_h, z_u, z_u1, z_c, z_ct, z_sk, sbne, lst1_d, ldel, lst2_d, ldel2, z_sw, z_rok, zi, eq_self, List.map_cons, List.map_nil, List.append_nil, List.nil_append, List.cons_append, Int32.reduceLT, Int32.reduceLE, Int32.reduceAdd, Int32.reduceSub, Int32.reduceMul, Int32.reduceToInt, Int32.reduceToNatClampNeg, Int.reduceLT, Int.reduceLE, Int.reduceNeg, true_and, and_true, or_self, or_false, false_or, false_and, and_false, true_or, or_true, if_true, if_false, ne_eq, Classical.not_not, not_true_eq_false, not_false_eq_true, true_implies, false_implies, implies_true, Nat.reduceEqDiff, Nat.reduceAdd, Nat.reduceLeDiff, Nat.reduceSub, reduceCtorEq, reduceIte, b187_25, skM s, srM s, w, nn, n106]
        simp (disch := omega) only [nI_ti, nI_cl, le0N, ltNN, c106, e2, true_and]
        try simp only [lv_args, z_v, z_lg, z_h, z_u, z_u1, z_c, z_ct, z_sk, sbne, lst1_d, ldel, lst2_d, ldel2, z_sw, z_rok, zi, eq_self, List.map_cons, List.map_nil, List.append_nil, List.nil_append, List.cons_append, Int32.reduceLT, Int32.reduceLE, Int32.reduceAdd, Int32.reduceSub, Int32.reduceMul, Int32.reduceToInt, Int32.reduceToNatClampNeg, Int.reduceLT, Int.reduceLE, Int.reduceNeg, true_and, and_true, or_self, or_false, false_or, false_and, and_false, true_or, or_true, if_true, if_false, ne_eq, Classical.not_not, not_true_eq_false, not_false_eq_true, true_implies, false_implies, implies_true, Nat.reduceEqDiff, Nat.reduceAdd, Nat.reduceLeDiff, Nat.reduceSub, reduceCtorEq, reduceIte, b187_25, skM s, srM s, w, nn, n106]
        simp (disch := omega) only [nI_ti, nI_cl, le0N, ltNN, c2, ev, idx_eq md e1 hj, true_and]
        have nf : j ∉ (((mSg y).take i).drop w0).map (·.1) := fun c => by
          have := hf.mpr c
          cases this
        refine ⟨fun c => ?_, fun c => ?_⟩
        · have go := nx false ⟨fun e => (by cases e), fun w => by
            rcases List.mem_append.mp w with w | w
            · exact absurd w nf
            · simp only [List.mem_cons, List.not_mem_nil, or_false] at w
              exact absurd w.symm c⟩
          simp only [eb0] at go
          simp only [lv_args, z_v, z_lg, z_h, z_u, z_u1, z_c, z_ct, z_sk, sbne, lst1_d, ldel, lst2_d, ldel2, z_sw, z_rok, zi, eq_self, List.map_cons, List.map_nil, List.append_nil, List.nil_append, List.cons_append, Int32.reduceLT, Int32.reduceLE, Int32.reduceAdd, Int32.reduceSub, Int32.reduceMul, Int32.reduceToInt, Int32.reduceToNatClampNeg, Int.reduceLT, Int.reduceLE, Int.reduceNeg, true_and, and_true, or_self, or_false, false_or, false_and, and_false, true_or, or_true, if_true, if_false, ne_eq, Classical.not_not, not_true_eq_false, not_false_eq_true, true_implies, false_implies, implies_true, Nat.reduceEqDiff, Nat.reduceAdd, Nat.reduceLeDiff, Nat.reduceSub, reduceCtorEq, reduceIte, b187_45, b187_46, nI_1]
          exact go
        · have go := nx true ⟨fun _ => List.mem_append_right _ (by simp [c]), fun _ => rfl⟩
          simp only [eb1] at go
          simp only [lv_args, z_v, z_lg, z_h, z_u, z_u1, z_c, z_ct, z_sk, sbne, lst1_d, ldel, lst2_d, ldel2, z_sw, z_rok, zi, eq_self, List.map_cons, List.map_nil, List.append_nil, List.nil_append, List.cons_append, Int32.reduceLT, Int32.reduceLE, Int32.reduceAdd, Int32.reduceSub, Int32.reduceMul, Int32.reduceToInt, Int32.reduceToNatClampNeg, Int.reduceLT, Int.reduceLE, Int.reduceNeg, true_and, and_true, or_self, or_false, false_or, false_and, and_false, true_or, or_true, if_true, if_false, ne_eq, Classical.not_not, not_true_eq_false, not_false_eq_true, true_implies, false_implies, implies_true, Nat.reduceEqDiff, Nat.reduceAdd, Nat.reduceLeDiff, Nat.reduceSub, reduceCtorEq, reduceIte, b187_41, b187_46, nI_1]
          exact go
  have go := loop ((mSg y).length - w0) w0 false (by omega) (Nat.le_refl _) ⟨fun e => (by cases e), fun w => by
    rw [List.drop_eq_nil_of_le (by rw [List.length_take]; omega)] at w
    simp at w⟩
  simp only [eb0] at go
  unfold aEv
  simp only [lv_args, z_v, z_lg, z_h, z_u, z_u1, z_c, z_ct, z_sk, sbne, lst1_d, ldel, lst2_d, ldel2, z_sw, z_rok, zi, eq_self, List.map_cons, List.map_nil, List.append_nil, List.nil_append, List.cons_append, Int32.reduceLT, Int32.reduceLE, Int32.reduceAdd, Int32.reduceSub, Int32.reduceMul, Int32.reduceToInt, Int32.reduceToNatClampNeg, Int.reduceLT, Int.reduceLE, Int.reduceNeg, true_and, and_true, or_self, or_false, false_or, false_and, and_false, true_or, or_true, if_true, if_false, ne_eq, Classical.not_not, not_true_eq_false, not_false_eq_true, true_implies, false_implies, implies_true, Nat.reduceEqDiff, Nat.reduceAdd, Nat.reduceLeDiff, Nat.reduceSub, reduceCtorEq, reduceIte, b187_0, skM s, srM s, R, w]
  exact go
end MRL
