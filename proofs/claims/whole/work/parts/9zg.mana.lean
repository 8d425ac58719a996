/-! BUILD. The reference: analyses -/
def KYa (q : Nat) (h0 h : Hp) : Prop := (hK h = hK h0 ∧ hR h = hR h0 ∧ hN h = hN h0 ∧ hn h = hn h0 ∧ hu h = hu h0 ∧ hv h = hv h0 ∧ hL h = hL h0 ∧ hB h = hB h0) ∧ (∀ a i, ¬ (YI q a i ∨ (a = q ∧ (i = 4 ∨ i = 26))) → hI h a i = hI h0 a i) ∧ ∀ a, ¬ (YA q a ∨ a = q + 11 ∨ a = q + 12) → hA h a = hA h0 a
section MAN
variable {h h' h0 : Hp} {Q : Option Value → Hp → Prop} {d n q g a b : Nat} {N : NS} {mt : List Nat} {nw : Nat → Int32}
theorem pm_of (hB : BK1 N mt nw) (hn : rFl (cAll N mt) = none) (md : MD N mt q h0) (H : MH N mt q h0 (mAll N) h) (e10 : hA h0 (q + 10) = nw) (e0 : hI h0 q 0 = nI (N.1 - 1)) (e4 : hI h0 q 4 = nI (gdf N).length) (e2 : hI h0 q 2 = nI (pts N 0).length) : PM (gOf N mt nw) q (pI h q 26 (nI (mLs (mAll N) 0))) := by
  have gs := gs_of hB hn
  obtain ⟨z, ez, _, _, _, b1, b2, b3, b4, b5, b6, b7, b8, b9, b10, b11⟩ := all_bnd hB hn
  have HGG := hg_of (nw := nw) ez b3 b5 b8 b9
  obtain ⟨R, W⟩ := b11 _ gs HGG
  have m := md_m md H
  have hq66 := mc_q m
  have nn := nq m.1.2 hq66
  obtain ⟨ky, mn, ms, ml, ⟨mg1, mg2, mg3, mg4, mg5⟩, mw⟩ := H
  have hN1 := m.2.2.2.2.2
  have ii : ∀ i, i ≠ 26 → hI (pI h q 26 (nI (mLs (mAll N) 0))) q i = hI h q i := fun i hi => up2_ne (fun e => hi e.2)
  have la : pLm (gOf N mt nw) = mLa (mAll N) := rfl
  have eNn : pNn (gOf N mt nw) = N.1 - 1 := rfl
  refine ⟨hq66, ?_, ?_, ?_, ⟨nn.2.2.2.2.2.2.2.2.2.1, fun i hi => ?_⟩, ?_, fun M M1 M2 => ?_, nn.2.2.2.2.2.2.2.2.2.2.2.2.2.2.2.2.2.1, nn.2.2.2.2.2.2.2.2.2.2.2.2.2.2.2.2.2.2, fun M j M1 M2 hj => ?_, ?_, ?_, ?_, ?_, ?_⟩
  · rw [ii 0 (by decide), ky.2.1 q 0 (by unfold YI; omega), e0]; rfl
  · rw [eNn]; omega
  · intro j j1 j7
    have key : ∀ n, n < N.1 - 1 → _ := fun n hn => m.2.2.1.1 (n + 1) (by omega) (by omega)
    have j' : j = 1 ∨ j = 2 ∨ j = 3 ∨ j = 4 ∨ j = 5 ∨ j = 6 ∨ j = 7 := by omega
    rcases j' with rfl | rfl | rfl | rfl | rfl | rfl | rfl
    · exact ⟨nn.1, fun n hn => (key n hn).1⟩
    · exact ⟨nn.2.1, fun n hn => (key n hn).2.1⟩
    · exact ⟨nn.2.2.1, fun n hn => (key n hn).2.2.1⟩
    · exact ⟨nn.2.2.2.1, fun n hn => (key n hn).2.2.2.1⟩
    · exact ⟨nn.2.2.2.2.1, fun n hn => (key n hn).2.2.2.2⟩
    · exact ⟨nn.2.2.2.2.2.1, fun n hn => (mn n (by rw [eNn] at hn; omega)).1⟩
    · exact ⟨nn.2.2.2.2.2.2.1, fun n hn => (mn n (by rw [eNn] at hn; omega)).2⟩
  · show hA h (q + 10) i = nw i
    rw [ky.2.2 (q + 10) (by unfold YA; omega), e10]
  · intro j j1 j7
    have j' : j = 14 ∨ j = 15 ∨ j = 16 ∨ j = 17 := by omega
    rcases j' with rfl | rfl | rfl | rfl
    · exact nn.2.2.2.2.2.2.2.2.2.2.2.2.2.1
    · exact nn.2.2.2.2.2.2.2.2.2.2.2.2.2.2.1
    · exact nn.2.2.2.2.2.2.2.2.2.2.2.2.2.2.2.1
    · exact nn.2.2.2.2.2.2.2.2.2.2.2.2.2.2.2.2.1
  · rw [la] at M2
    obtain ⟨⟨w1, w2, _⟩, _⟩ := W M M1 M2
    obtain ⟨a1, a2⟩ := mg2 M M1 M2
    obtain ⟨a3, a4⟩ := mg3 M M2
    refine ⟨a1, ?_, a3, ?_⟩
    · rw [w1]; exact a2
    · rw [w2]; exact a4
  · rw [la] at M2
    obtain ⟨⟨w1, w2, _⟩, _⟩ := W M M1 M2
    rw [w2] at hj
    have hj : j < (mFe (mAll N) M).length := hj
    have he := List.getElem?_eq_getElem hj
    obtain ⟨a1, a2⟩ := mg4 M M1 M2 (by omega) j _ he
    have q1 : (256 * M + j) / 256 = M := by have := b8 M M1 M2; omega
    have q2 : (256 * M + j) % 256 = j := by have := b8 M M1 M2; omega
    refine ⟨?_, ?_⟩
    · show hA h (q + 18) (256 * M + j) = nI ((mFe (mAll N) ((256 * M + j) / 256)).getD ((256 * M + j) % 256) (0, 0, 0)).2.1
      rw [q1, q2, List.getD_eq_getElem?_getD, he]
      exact a1
    · show hA h (q + 19) (256 * M + j) = nI ((mFe (mAll N) ((256 * M + j) / 256)).getD ((256 * M + j) % 256) (0, 0, 0)).2.2
      rw [q1, q2, List.getD_eq_getElem?_getD, he]
      exact a2
  · rw [ii 4 (by decide), ky.2.1 q 4 (by unfold YI; omega), e4]; rfl
  · exact up2_eq
  · rw [ii 2 (by decide), ky.2.1 q 2 (by unfold YI; omega), e2]; rfl
  · rw [ii 3 (by decide)]
    exact m.2.2.1.2.2
  · rw [ii 5 (by decide), mg1]; rfl
theorem mrw_c (f : Nat) {y : MR} {c : Nat} {l : List Nat} : mRw N (c :: l) y = mRw N l (mF N 40 c true y) := rfl
theorem sp_analyses (m : MC N mt q h) (nd : mt.Nodup) (pp : ∀ i, 1 ≤ i → i < N.1 → nP N i = nI (nQ N i) ∧ nQ N i < 3001) (ht : Tr (g + 1) N 0 N.1) (h6 : nK N 0 = 6) (hg : g ≤ 31) (hN6 : N.1 ≤ 6001) (e5 : hI h q 5 = 0) (e4 : hI h q 4 = 0) (e15 : hI h 59 15 = 0) (e11 : ∀ j, j ∈ mt → hA h (q + 11) (mt.idxOf j) = -1) (eme : ∀ i, i + 1 < N.1 → hA h (q + 6) i = 0 ∧ hA h (q + 7) i = 0) (hd : 300 < d) (hq : ∀ h', KYa q h h' → MWx (mAll N) h' → (rFl (cAll N mt) = none → BK1 N mt (hA h (q + 10)) → hI h q 0 = nI (N.1 - 1) → hI h q 2 = nI (pts N 0).length → PM (gOf N mt (hA h (q + 10))) q h') → Q none h') : aEv d 179 [.ref 59] h Q := by
  have h00 : 0 < d := by omega
  have hq66 := mc_q m
  have hN1 := m.2.2.2.2.2
  obtain ⟨t1, t2, hn0⟩ := tl_n ht h6 (Nat.le_refl _) hN1
  have s := m.1.1
  have R := mc_R m
  have sw := sq s hq66
  have nn := nq m.1.2 hq66
  have n109 : hN h 109 = 32 := m.1.2.1.2 (109, 32) (by decide)
  have n110 : hN h 110 = 32 := m.1.2.1.2 (110, 32) (by decide)
  have f4 : MFs N g (fun a => mF N 40 a true) ∧ FIs N g (fun a => mF N 40 a true) ∧ MSs N g (fun a => mF N 40 a true) ∧ MCs N g (fun a => mF N 40 a true) := ⟨fun v m y ht hv hi => mF_e 40 g (by omega) v m true y ht.1 ht.2 hv hi, fun v m y ht hv hi h1 => mF_f 40 g (by omega) (by omega) v m true y ht.1 ht.2 hv hi h1, fun v m y B ht hv hi h1 h2 => mF_s 40 g (by omega) (by omega) v m true y B ht.1 ht.2 hv hi h1 h2, fun v m y t => mF_c 40 g (by omega) v m true y t.1 t.2⟩
  have z0 : (0 : Int32) = nI 0 := rfl
  have z1 : ∀ {x : Nat}, 0 < x → (0 < x) = True := fun h => eq_true h
  -- from the forms on
  have rest : ∀ (hD : Hp), KYd q h hD ∨ True → MC N mt q hD → (∀ a i, ¬ (YI q a i ∨ (a = q ∧ (i = 4 ∨ i = 26))) → hI hD a i = hI h a i) → (∀ a, ¬ (YA q a ∨ a = q + 11 ∨ a = q + 12) → hA hD a = hA h a) → (hK hD = hK h ∧ hR hD = hR h ∧ hN hD = hN h ∧ hn hD = hn h ∧ hu hD = hu h ∧ hv hD = hv h ∧ hL hD = hL h ∧ hB hD = hB h) → DX mt q (gdf N) (mDf N (pts N 0) [] none) hD → 3 * (gdf N).length ≤ 6201 → MH N mt q hD (mY0 N) hD → aWP d 179 57 [(2, .int (dnI (oI (pts N 0).head?))), (1, .ref q), (0, .ref 59)] [] hD Q := by
    intro hD _ mD fI fA fR DD hg3 HD
    have md : MD N mt q hD := ⟨mD, DD.2.1, nd, by omega, pp⟩
    have loop : ∀ (l : List Nat) (a : Nat) (y : MR) (h1 : Hp), TL g N l a N.1 → MW g a N.1 y → MH N mt q hD y h1 → mRw N l y = mAll N → aWP d 179 57 [(2, .int (dnI (oI l.head?))), (1, .ref q), (0, .ref 59)] [] h1 Q := by
      intro l
      induction l with
      | nil =>
        intro a y h1 tl w H e
        have e : y = mAll N := e
        subst e
        have m1 := md_m md H
        have s1 := m1.1.1
        have sw1 := sq s1 hq66
        have nn1 := nq m1.1.2 hq66
        have e0 := (H.2.2.2.2.1.2.2.1 0 (Nat.zero_le _)).1
        have P := hq (pI h1 q 26 (nI (mLs (mAll N) 0))) ⟨⟨H.1.1.1.trans fR.1, H.1.1.2.1.trans fR.2.1, H.1.1.2.2.1.trans fR.2.2.1, H.1.1.2.2.2.1.trans fR.2.2.2.1, H.1.1.2.2.2.2.1.trans fR.2.2.2.2.1, H.1.1.2.2.2.2.2.1.trans fR.2.2.2.2.2.1, H.1.1.2.2.2.2.2.2.1.trans fR.2.2.2.2.2.2.1, H.1.1.2.2.2.2.2.2.2.trans fR.2.2.2.2.2.2.2⟩, fun a i c => (up2_ne (fun e => c (Or.inr ⟨e.1, Or.inr e.2⟩))).trans ((H.1.2.1 a i (fun c2 => c (Or.inl c2))).trans (fI a i c)), fun a c => (H.1.2.2 a (fun c2 => c (Or.inl c2))).trans (fA a c)⟩ (by
          have mw := H.2.2.2.2.2
          rcases hq66 with rfl | rfl <;> exact mw) (fun hn hB g0 g2 => pm_of hB hn md H (fA (q + 10) (by unfold YA; omega)) ((fI q 0 (by unfold YI; omega)).trans g0) DD.1 ((fI q 2 (by unfold YI; omega)).trans g2))
        have c0 : (0 < 3000) = True := eq_true (by decide)
        simp only [lv_args, z_v, z_lg, z_h, z_u, z_u1, z_c, z_ct, z_sk, sbne, lst1_d, ldel, lst2_d, ldel2, z_sw, z_rok, zi, eq_self, List.map_cons, List.map_nil, List.append_nil, List.nil_append, List.cons_append, Int32.reduceLT, Int32.reduceLE, Int32.reduceAdd, Int32.reduceSub, Int32.reduceMul, Int32.reduceToInt, Int32.reduceToNatClampNeg, Int.reduceLT, Int.reduceLE, Int.reduceNeg, true_and, and_true, or_self, or_false, false_or, false_and, and_false, true_or, or_true, if_true, if_false, ne_eq, Classical.not_not, not_true_eq_false, not_false_eq_true, true_implies, false_implies, implies_true, Nat.reduceEqDiff, Nat.reduceAdd, Nat.reduceLeDiff, Nat.reduceSub, reduceCtorEq, reduceIte, b179_57, dn_n]
        simp only [lv_args, z_v, z_lg, z_h, z_u, z_u1, z_c, z_ct, z_sk, sbne, lst1_d, ldel, lst2_d, ldel2, z_sw, z_rok, zi, eq_self, List.map_cons, List.map_nil, List.append_nil, List.nil_append, List.cons_append, Int32.reduceLT, Int32.reduceLE, Int32.reduceAdd, Int32.reduceSub, Int32.reduceMul, Int32.reduceToInt, Int32.reduceToNatClampNeg, Int.reduceLT, Int.reduceLE, Int.reduceNeg, true_and, and_true, or_self, or_false, false_or, false_and, and_false, true_or, or_true, if_true, if_false, ne_eq, Classical.not_not, not_true_eq_false, not_false_eq_true, true_implies, false_implies, implies_true, Nat.reduceEqDiff, Nat.reduceAdd, Nat.reduceLeDiff, Nat.reduceSub, reduceCtorEq, reduceIte, b179_78, skM s1, srM s1, sw1, nn1, z0]
        simp (disch := omega) only [nI_ti, nI_cl, le0N, ltNN, e0, true_and]
        try simp only [lv_args, z_v, z_lg, z_h, z_u, z_u1, z_c, z_ct, z_sk, sbne, lst1_d, ldel, lst2_d, ldel2, z_sw, z_rok, zi, eq_self, List.map_cons, List.map_nil, List.append_nil, List.nil_append, List.cons_append, Int32.reduceLT, Int32.reduceLE, Int32.reduceAdd, Int32.reduceSub, Int32.reduceMul, Int32.reduceToInt, Int32.reduceToNatClampNeg, Int.reduceLT, Int.reduceLE, Int.reduceNeg, true_and, and_true, or_self, or_false, false_or, false_and, and_false, true_or, or_true, if_true, if_false, ne_eq, Classical.not_not, not_true_eq_false, not_false_eq_true, true_implies, false_implies, implies_true, Nat.reduceEqDiff, Nat.reduceAdd, Nat.reduceLeDiff, Nat.reduceSub, reduceCtorEq, reduceIte, b179_78, Nat.reduceLT, true_and, e0]
        exact P
      | cons c l ih =>
        intro a y h1 tl w H e
        have tl0 := tl
        obtain ⟨x1, x2, x3, mm, x4, x5, x6⟩ := tl_c tl
        have hac : c = a := tl0.1.1
        have m1 := md_m md H
        have s1 := m1.1.1
        have sw1 := sq s1 hq66
        have ne := dn_m1 (l := l) x2 (by omega : c < 7000)
        have hmb : mm ≤ N.1 := x5
        obtain ⟨w', _⟩ := mw_F4 f4 hg ⟨x4, by omega⟩ x2 (by omega) hmb w
        simp only [lv_args, z_v, z_lg, z_h, z_u, z_u1, z_c, z_ct, z_sk, sbne, lst1_d, ldel, lst2_d, ldel2, z_sw, z_rok, zi, eq_self, List.map_cons, List.map_nil, List.append_nil, List.nil_append, List.cons_append, Int32.reduceLT, Int32.reduceLE, Int32.reduceAdd, Int32.reduceSub, Int32.reduceMul, Int32.reduceToInt, Int32.reduceToNatClampNeg, Int.reduceLT, Int.reduceLE, Int.reduceNeg, true_and, and_true, or_self, or_false, false_or, false_and, and_false, true_or, or_true, if_true, if_false, ne_eq, Classical.not_not, not_true_eq_false, not_false_eq_true, true_implies, false_implies, implies_true, Nat.reduceEqDiff, Nat.reduceAdd, Nat.reduceLeDiff, Nat.reduceSub, reduceCtorEq, reduceIte, b179_57, ne]
        rw [dn_o x2 (by omega)]
        simp only [lv_args, z_v, z_lg, z_h, z_u, z_u1, z_c, z_ct, z_sk, sbne, lst1_d, ldel, lst2_d, ldel2, z_sw, z_rok, zi, eq_self, List.map_cons, List.map_nil, List.append_nil, List.nil_append, List.cons_append, Int32.reduceLT, Int32.reduceLE, Int32.reduceAdd, Int32.reduceSub, Int32.reduceMul, Int32.reduceToInt, Int32.reduceToNatClampNeg, Int.reduceLT, Int.reduceLE, Int.reduceNeg, true_and, and_true, or_self, or_false, false_or, false_and, and_false, true_or, or_true, if_true, if_false, ne_eq, Classical.not_not, not_true_eq_false, not_false_eq_true, true_implies, false_implies, implies_true, Nat.reduceEqDiff, Nat.reduceAdd, Nat.reduceLeDiff, Nat.reduceSub, reduceCtorEq, reduceIte, b179_62, skM s1, sw1, h00]
        refine sp_mform md 40 g (by omega) hg c mm true y h1 _ _ x4 x5 x2 (mw_sub w (by omega) hmb) H (by omega) (fun h2 H2 => ?_)
        have m2 := md_m md H2
        have s2 := m2.1.1
        have sw2 := sq s2 hq66
        have nn2 := nq m2.1.2 hq66
        have en := (m2.2.2.1.1 c x2 x1).2.2.2.2
        rw [x3] at en
        have c2 : (c - 1 < 6200) = True := eq_true (by omega)
        have nx := ih mm _ h2 x6 w' H2 e
        simp only [lv_args, z_v, z_lg, z_h, z_u, z_u1, z_c, z_ct, z_sk, sbne, lst1_d, ldel, lst2_d, ldel2, z_sw, z_rok, zi, eq_self, List.map_cons, List.map_nil, List.append_nil, List.nil_append, List.cons_append, Int32.reduceLT, Int32.reduceLE, Int32.reduceAdd, Int32.reduceSub, Int32.reduceMul, Int32.reduceToInt, Int32.reduceToNatClampNeg, Int.reduceLT, Int.reduceLE, Int.reduceNeg, true_and, and_true, or_self, or_false, false_or, false_and, and_false, true_or, or_true, if_true, if_false, ne_eq, Classical.not_not, not_true_eq_false, not_false_eq_true, true_implies, false_implies, implies_true, Nat.reduceEqDiff, Nat.reduceAdd, Nat.reduceLeDiff, Nat.reduceSub, reduceCtorEq, reduceIte, b179_62, skM s1, skM s2, srM s2, sw1, sw2, nn2, Nat.reduceLT]
        simp (disch := omega) only [nI_ti, nI_cl, le0N, ltNN, c2, en, true_and]
        try simp only [lv_args, z_v, z_lg, z_h, z_u, z_u1, z_c, z_ct, z_sk, sbne, lst1_d, ldel, lst2_d, ldel2, z_sw, z_rok, zi, eq_self, List.map_cons, List.map_nil, List.append_nil, List.nil_append, List.cons_append, Int32.reduceLT, Int32.reduceLE, Int32.reduceAdd, Int32.reduceSub, Int32.reduceMul, Int32.reduceToInt, Int32.reduceToNatClampNeg, Int.reduceLT, Int.reduceLE, Int.reduceNeg, true_and, and_true, or_self, or_false, false_or, false_and, and_false, true_or, or_true, if_true, if_false, ne_eq, Classical.not_not, not_true_eq_false, not_false_eq_true, true_implies, false_implies, implies_true, Nat.reduceEqDiff, Nat.reduceAdd, Nat.reduceLeDiff, Nat.reduceSub, reduceCtorEq, reduceIte, b179_62]
        exact nx
    have ai : AI (mY0 N) := fun l hl => Nat.le_refl _
    have fi : FI (mY0 N) := ⟨fun i h => absurd h (Nat.not_lt_zero _), fun l l' q1 q2 => by
      have q2 : l' ≤ 0 := q2
      omega, ai, fun l l1 l2 => by
      have l2 : l ≤ 0 := l2
      omega⟩
    refine loop (pts N 0) 1 (mY0 N) hD t2 ⟨fi, ?_, ?_, ?_, fun M _ => Nat.zero_le _, fun M M1 M2 => Nat.zero_le _, ?_, ?_, rfl⟩ HD rfl
    · show 0 + 8 * g ≤ 250; omega
    · show 0 + g ≤ 31; omega
    · show 0 + 8 * g ≤ 250; omega
    · show 0 + N.1 ≤ 6100 + 1; omega
    · show 3 * 0 + N.1 ≤ 6100 + 1; omega
  rcases hq66 with rfl | rfl
  · have n16 : hN h 82 = 3000 := nn.2.2.2.2.2.2.2.2.2.2.2.2.2.2.2.1
    have n17 : hN h 83 = 3000 := nn.2.2.2.2.2.2.2.2.2.2.2.2.2.2.2.2.1
    have hZ : ∃ hz, hz = pA (pA (pA (pA (pI (pI (pI h 59 23 (nI 0)) 59 24 (nI 0)) 59 27 (nI 0)) 109 (upd (hA h 109) 0 (nI 0))) 110 (upd (hA h 110) 0 (nI 0))) 83 (upd (hA h 83) 0 (nI 0))) 82 (upd (hA h 82) 0 (nI 0)) := ⟨_, rfl⟩
    obtain ⟨hz, ehz⟩ := hZ
    have kz : KYf 66 h hz := by
      rw [ehz]
      exact ky_A (ky_A (ky_A (ky_A (ky_I (ky_I (ky_I ⟨⟨rfl, rfl, rfl, rfl, rfl, rfl, rfl, rfl⟩, fun _ _ _ => rfl, fun _ _ => rfl⟩ (by unfold YI; omega)) (by unfold YI; omega)) (by unfold YI; omega)) (by unfold YA; omega)) (by unfold YA; omega)) (by unfold YA; omega)) (by unfold YA; omega)
    have mz := mc_k kz m
    have sz := mz.1.1
    have go : ∀ hD, KYd 66 hz hD → DX mt 66 (gdf N) (mDf N (pts N 0) [] none) hD → 3 * (gdf N).length ≤ 6201 → aWP d 179 57 [(2, .int (hI hD 66 3)), (1, .ref 66), (0, .ref 59)] [] hD Q := by
      intro hD ky D hl
      have mD := mc_d ky mz
      have e3 : hI hD 66 3 = dnI (oI (pts N 0).head?) := by rw [mD.2.2.1.2.2, t1]
      rw [e3]
      have iD : ∀ a i, ¬ ((a = 59 ∧ (i = 15 ∨ i = 16)) ∨ (a = 66 ∧ i = 4)) → hI hD a i = hI hz a i := ky.2.1
      have aD : ∀ a, ¬ (a = 77 ∨ a = 78) → hA hD a = hA hz a := ky.2.2
      refine rest hD (Or.inr trivial) mD (fun a i c => (iD a i (fun c2 => c (by
        unfold YI
        rcases c2 with c2 | c2
        · exact Or.inl (Or.inl ⟨c2.1, by omega⟩)
        · exact Or.inr ⟨c2.1, Or.inl c2.2⟩))).trans (kz.2.1 a i (fun c2 => c (Or.inl c2)))) (fun a c => (aD a (fun c2 => c (Or.inr c2))).trans (kz.2.2 a (fun c2 => c (Or.inl c2)))) ⟨ky.1.1.trans kz.1.1, ky.1.2.1.trans kz.1.2.1, ky.1.2.2.1.trans kz.1.2.2.1, ky.1.2.2.2.1.trans kz.1.2.2.2.1, ky.1.2.2.2.2.1.trans kz.1.2.2.2.2.1, ky.1.2.2.2.2.2.1.trans kz.1.2.2.2.2.2.1, ky.1.2.2.2.2.2.2.1.trans kz.1.2.2.2.2.2.2.1, ky.1.2.2.2.2.2.2.2.trans kz.1.2.2.2.2.2.2.2⟩ D hl ?_
      refine ⟨⟨⟨rfl, rfl, rfl, rfl, rfl, rfl, rfl, rfl⟩, fun _ _ _ => rfl, fun _ _ => rfl⟩, fun i hi => ?_, ⟨?_, Nat.zero_le _, fun i e he => by cases he⟩, ⟨?_, Nat.zero_le _, fun l hl => ?_⟩, ⟨?_, fun M M1 M2 => ?_, fun M M2 => ?_, fun M M1 M2 => ?_, fun l l1 l2 => ?_⟩, D.2.2⟩
      · rw [aD 72 (by omega), aD 73 (by omega), ehz]
        exact eme i hi
      · rw [iD 59 23 (by omega), ehz]; rfl
      · rw [iD 59 27 (by omega), ehz]; rfl
      · have hl : l = 0 := Nat.le_zero.mp hl
        subst hl
        rw [aD 109 (by omega), aD 110 (by omega), ehz]
        exact ⟨rfl, rfl⟩
      · rw [iD 66 5 (by omega), ehz]; exact e5
      · have M2 : M ≤ 0 := M2
        omega
      · have M2 : M = 0 := Nat.le_zero.mp M2
        subst M2
        rw [aD 82 (by omega), aD 83 (by omega), ehz]
        exact ⟨rfl, rfl⟩
      · have M2 : M ≤ 0 := M2
        omega
      · have l2 : l ≤ 0 := l2
        omega
    unfold aEv
    have c3 : (0 < 32) = True := eq_true (by decide)
    have c4 : (0 < 3000) = True := eq_true (by decide)
    simp only [lv_args, z_v, z_lg, z_h, z_u, z_u1, z_c, z_ct, z_sk, sbne, lst1_d, ldel, lst2_d, ldel2, z_sw, z_rok, zi, eq_self, List.map_cons, List.map_nil, List.append_nil, List.nil_append, List.cons_append, Int32.reduceLT, Int32.reduceLE, Int32.reduceAdd, Int32.reduceSub, Int32.reduceMul, Int32.reduceToInt, Int32.reduceToNatClampNeg, Int.reduceLT, Int.reduceLE, Int.reduceNeg, true_and, and_true, or_self, or_false, false_or, false_and, and_false, true_or, or_true, if_true, if_false, ne_eq, Classical.not_not, not_true_eq_false, not_false_eq_true, true_implies, false_implies, implies_true, Nat.reduceEqDiff, Nat.reduceAdd, Nat.reduceLeDiff, Nat.reduceSub, reduceCtorEq, reduceIte, b179_0, skM s, srM s, R, n109, n110, n16, n17, h00, z0]
    simp (disch := omega) only [nI_ti, nI_cl, le0N, ltNN, c3, c4, true_and]
    try simp only [lv_args, z_v, z_lg, z_h, z_u, z_u1, z_c, z_ct, z_sk, sbne, lst1_d, ldel, lst2_d, ldel2, z_sw, z_rok, zi, eq_self, List.map_cons, List.map_nil, List.append_nil, List.nil_append, List.cons_append, Int32.reduceLT, Int32.reduceLE, Int32.reduceAdd, Int32.reduceSub, Int32.reduceMul, Int32.reduceToInt, Int32.reduceToNatClampNeg, Int.reduceLT, Int.reduceLE, Int.reduceNeg, true_and, and_true, or_self, or_false, false_or, false_and, and_false, true_or, or_true, if_true, if_false, ne_eq, Classical.not_not, not_true_eq_false, not_false_eq_true, true_implies, false_implies, implies_true, Nat.reduceEqDiff, Nat.reduceAdd, Nat.reduceLeDiff, Nat.reduceSub, reduceCtorEq, reduceIte, b179_0, skM s, srM s, R, n109, n110, n16, n17, h00, z0]
    try simp (disch := omega) only [nI_ti, nI_cl, le0N, ltNN, c3, c4, true_and]
    try simp only [lv_args, z_v, z_lg, z_h, z_u, z_u1, z_c, z_ct, z_sk, sbne, lst1_d, ldel, lst2_d, ldel2, z_sw, z_rok, zi, eq_self, List.map_cons, List.map_nil, List.append_nil, List.nil_append, List.cons_append, Int32.reduceLT, Int32.reduceLE, Int32.reduceAdd, Int32.reduceSub, Int32.reduceMul, Int32.reduceToInt, Int32.reduceToNatClampNeg, Int.reduceLT, Int.reduceLE, Int.reduceNeg, true_and, and_true, or_self, or_false, false_or, false_and, and_false, true_or, or_true, if_true, if_false, ne_eq, Classical.not_not, not_true_eq_false, not_false_eq_true, true_implies, false_implies, implies_true, Nat.reduceEqDiff, Nat.reduceAdd, Nat.reduceLeDiff, Nat.reduceSub, reduceCtorEq, reduceIte, b179_0, skM s, srM s, R, n109, n110, n16, n17, h00, z0]
    rw [← ehz]
    refine sp_defines mz nd pp ht h6 ⟨by rw [ehz]; exact e4, fun j hj => by rw [if_neg (by simp), kz.2.2 77 (by unfold YA; omega)]; exact e11 j hj, ⟨by rw [ehz]; rfl, fun _ => by rw [ehz]; exact e15, fun k p c => (by cases c)⟩⟩ (by omega) (fun hD ky D hl => ?_)
    have sD := (mc_d ky mz).1.1
    have g9 := go hD ky D hl
    simp only [lv_args, z_v, z_lg, z_h, z_u, z_u1, z_c, z_ct, z_sk, sbne, lst1_d, ldel, lst2_d, ldel2, z_sw, z_rok, zi, eq_self, List.map_cons, List.map_nil, List.append_nil, List.nil_append, List.cons_append, Int32.reduceLT, Int32.reduceLE, Int32.reduceAdd, Int32.reduceSub, Int32.reduceMul, Int32.reduceToInt, Int32.reduceToNatClampNeg, Int.reduceLT, Int.reduceLE, Int.reduceNeg, true_and, and_true, or_self, or_false, false_or, false_and, and_false, true_or, or_true, if_true, if_false, ne_eq, Classical.not_not, not_true_eq_false, not_false_eq_true, true_implies, false_implies, implies_true, Nat.reduceEqDiff, Nat.reduceAdd, Nat.reduceLeDiff, Nat.reduceSub, reduceCtorEq, reduceIte, b179_0, skM sz, skM sD, Nat.reduceLT]
    exact g9
  · have n16 : hN h 102 = 3000 := nn.2.2.2.2.2.2.2.2.2.2.2.2.2.2.2.1
    have n17 : hN h 103 = 3000 := nn.2.2.2.2.2.2.2.2.2.2.2.2.2.2.2.2.1
    have hZ : ∃ hz, hz = pA (pA (pA (pA (pI (pI (pI h 59 23 (nI 0)) 59 24 (nI 0)) 59 27 (nI 0)) 109 (upd (hA h 109) 0 (nI 0))) 110 (upd (hA h 110) 0 (nI 0))) 103 (upd (hA h 103) 0 (nI 0))) 102 (upd (hA h 102) 0 (nI 0)) := ⟨_, rfl⟩
    obtain ⟨hz, ehz⟩ := hZ
    have kz : KYf 86 h hz := by
      rw [ehz]
      exact ky_A (ky_A (ky_A (ky_A (ky_I (ky_I (ky_I ⟨⟨rfl, rfl, rfl, rfl, rfl, rfl, rfl, rfl⟩, fun _ _ _ => rfl, fun _ _ => rfl⟩ (by unfold YI; omega)) (by unfold YI; omega)) (by unfold YI; omega)) (by unfold YA; omega)) (by unfold YA; omega)) (by unfold YA; omega)) (by unfold YA; omega)
    have mz := mc_k kz m
    have sz := mz.1.1
    have go : ∀ hD, KYd 86 hz hD → DX mt 86 (gdf N) (mDf N (pts N 0) [] none) hD → 3 * (gdf N).length ≤ 6201 → aWP d 179 57 [(2, .int (hI hD 86 3)), (1, .ref 86), (0, .ref 59)] [] hD Q := by
      intro hD ky D hl
      have mD := mc_d ky mz
      have e3 : hI hD 86 3 = dnI (oI (pts N 0).head?) := by rw [mD.2.2.1.2.2, t1]
      rw [e3]
      have iD : ∀ a i, ¬ ((a = 59 ∧ (i = 15 ∨ i = 16)) ∨ (a = 86 ∧ i = 4)) → hI hD a i = hI hz a i := ky.2.1
      have aD : ∀ a, ¬ (a = 97 ∨ a = 98) → hA hD a = hA hz a := ky.2.2
      refine rest hD (Or.inr trivial) mD (fun a i c => (iD a i (fun c2 => c (by
        unfold YI
        rcases c2 with c2 | c2
        · exact Or.inl (Or.inl ⟨c2.1, by omega⟩)
        · exact Or.inr ⟨c2.1, Or.inl c2.2⟩))).trans (kz.2.1 a i (fun c2 => c (Or.inl c2)))) (fun a c => (aD a (fun c2 => c (Or.inr c2))).trans (kz.2.2 a (fun c2 => c (Or.inl c2)))) ⟨ky.1.1.trans kz.1.1, ky.1.2.1.trans kz.1.2.1, ky.1.2.2.1.trans kz.1.2.2.1, ky.1.2.2.2.1.trans kz.1.2.2.2.1, ky.1.2.2.2.2.1.trans kz.1.2.2.2.2.1, ky.1.2.2.2.2.2.1.trans kz.1.2.2.2.2.2.1, ky.1.2.2.2.2.2.2.1.trans kz.1.2.2.2.2.2.2.1, ky.1.2.2.2.2.2.2.2.trans kz.1.2.2.2.2.2.2.2⟩ D hl ?_
      refine ⟨⟨⟨rfl, rfl, rfl, rfl, rfl, rfl, rfl, rfl⟩, fun _ _ _ => rfl, fun _ _ => rfl⟩, fun i hi => ?_, ⟨?_, Nat.zero_le _, fun i e he => by cases he⟩, ⟨?_, Nat.zero_le _, fun l hl => ?_⟩, ⟨?_, fun M M1 M2 => ?_, fun M M2 => ?_, fun M M1 M2 => ?_, fun l l1 l2 => ?_⟩, D.2.2⟩
      · rw [aD 92 (by omega), aD 93 (by omega), ehz]
        exact eme i hi
      · rw [iD 59 23 (by omega), ehz]; rfl
      · rw [iD 59 27 (by omega), ehz]; rfl
      · have hl : l = 0 := Nat.le_zero.mp hl
        subst hl
        rw [aD 109 (by omega), aD 110 (by omega), ehz]
        exact ⟨rfl, rfl⟩
      · rw [iD 86 5 (by omega), ehz]; exact e5
      · have M2 : M ≤ 0 := M2
        omega
      · have M2 : M = 0 := Nat.le_zero.mp M2
        subst M2
        rw [aD 102 (by omega), aD 103 (by omega), ehz]
        exact ⟨rfl, rfl⟩
      · have M2 : M ≤ 0 := M2
        omega
      · have l2 : l ≤ 0 := l2
        omega
    unfold aEv
    have c3 : (0 < 32) = True := eq_true (by decide)
    have c4 : (0 < 3000) = True := eq_true (by decide)
    simp only [lv_args, z_v, z_lg, z_h, z_u, z_u1, z_c, z_ct, z_sk, sbne, lst1_d, ldel, lst2_d, ldel2, z_sw, z_rok, zi, eq_self, List.map_cons, List.map_nil, List.append_nil, List.nil_append, List.cons_append, Int32.reduceLT, Int32.reduceLE, Int32.reduceAdd, Int32.reduceSub, Int32.reduceMul, Int32.reduceToInt, Int32.reduceToNatClampNeg, Int.reduceLT, Int.reduceLE, Int.reduceNeg, true_and, and_true, or_self, or_false, false_or, false_and, and_false, true_or, or_true, if_true, if_false, ne_eq, Classical.not_not, not_true_eq_false, not_false_eq_true, true_implies, false_implies, implies_true, Nat.reduceEqDiff, Nat.reduceAdd, Nat.reduceLeDiff, Nat.reduceSub, reduceCtorEq, reduceIte, b179_0, skM s, srM s, R, n109, n110, n16, n17, h00, z0]
    simp (disch := omega) only [nI_ti, nI_cl, le0N, ltNN, c3, c4, true_and]
    try simp only [lv_args, z_v, z_lg, z_h, z_u, z_u1, z_c, z_ct, z_sk, sbne, lst1_d, ldel, lst2_d, ldel2, z_sw, z_rok, zi, eq_self, List.map_cons, List.map_nil, List.append_nil, List.nil_append, List.cons_append, Int32.reduceLT, Int32.reduceLE, Int32.reduceAdd, Int32.reduceSub, Int32.reduceMul, Int32.reduceToInt, Int32.reduceToNatClampNeg, Int.reduceLT, Int.reduceLE, Int.reduceNeg, true_and, and_true, or_self, or_false, false_or, false_and, and_false, true_or, or_true, if_true, if_false, ne_eq, Classical.not_not, not_true_eq_false, not_false_eq_true, true_implies, false_implies, implies_true, Nat.reduceEqDiff, Nat.reduceAdd, Nat.reduceLeDiff, Nat.reduceSub, reduceCtorEq, reduceIte, b179_0, skM s, srM s, R, n109, n110, n16, n17, h00, z0]
    try simp (disch := omega) only [nI_ti, nI_cl, le0N, ltNN, c3, c4, true_and]
    try simp only [lv_args, z_v, z_lg, z_h, z_u, z_u1, z_c, z_ct, z_sk, sbne, lst1_d, ldel, lst2_d, ldel2, z_sw, z_rok, zi, eq_self, List.map_cons, List.map_nil, List.append_nil, List.nil_append, List.cons_append, Int32.reduceLT, Int32.reduceLE, Int32.reduceAdd, Int32.reduceSub, Int32.reduceMul, Int32.reduceToInt, Int32.reduceToNatClampNeg, Int.reduceLT, Int.reduceLE, Int.reduceNeg, true_and, and_true, or_self, or_false, false_or, false_and, and_false, true_or, or_true, if_true, if_false, ne_eq, Classical.not_not, not_true_eq_false, not_false_eq_true, true_implies, false_implies, implies_true, Nat.reduceEqDiff, Nat.reduceAdd, Nat.reduceLeDiff, Nat.reduceSub, reduceCtorEq, reduceIte, b179_0, skM s, srM s, R, n109, n110, n16, n17, h00, z0]
    rw [← ehz]
    refine sp_defines mz nd pp ht h6 ⟨by rw [ehz]; exact e4, fun j hj => by rw [if_neg (by simp), kz.2.2 97 (by unfold YA; omega)]; exact e11 j hj, ⟨by rw [ehz]; rfl, fun _ => by rw [ehz]; exact e15, fun k p c => (by cases c)⟩⟩ (by omega) (fun hD ky D hl => ?_)
    have sD := (mc_d ky mz).1.1
    have g9 := go hD ky D hl
    simp only [lv_args, z_v, z_lg, z_h, z_u, z_u1, z_c, z_ct, z_sk, sbne, lst1_d, ldel, lst2_d, ldel2, z_sw, z_rok, zi, eq_self, List.map_cons, List.map_nil, List.append_nil, List.nil_append, List.cons_append, Int32.reduceLT, Int32.reduceLE, Int32.reduceAdd, Int32.reduceSub, Int32.reduceMul, Int32.reduceToInt, Int32.reduceToNatClampNeg, Int.reduceLT, Int.reduceLE, Int.reduceNeg, true_and, and_true, or_self, or_false, false_or, false_and, and_false, true_or, or_true, if_true, if_false, ne_eq, Classical.not_not, not_true_eq_false, not_false_eq_true, true_implies, false_implies, implies_true, Nat.reduceEqDiff, Nat.reduceAdd, Nat.reduceLeDiff, Nat.reduceSub, reduceCtorEq, reduceIte, b179_0, skM sz, skM sD, Nat.reduceLT]
    exact g9
end MAN
