/-! BUILD. The compiler's small methods -/
section CPR
variable {h h' h0 : Hp} {Q : Option Value → Hp → Prop} {d p c1 c2 n : Nat} {N : NS} {mt op : List Nat} {K : List KY} {z : CR}
theorem cc_R (cc : CC N mt K p c1 c2 h0) (H : CH0 N K p c1 c2 h0 op z h) : hR h 39 3 = some p := by rw [H.1.2.1.1]; exact cc.2.1
theorem cc_rd (cc : CC N mt K p c1 c2 h0) (H : CH0 N K p c1 c2 h0 op z h) : RD N h := rd_kx H.1.2 cc.1 cc.2.2.1
theorem gd_E {o v : Int32} {dp : Nat} (G : gd c1 c2 (cE o v dp z)) : gd c1 c2 z ∧ (rCd z).length < c1 := by
  have := G.2.1
  rw [cd_E] at this
  exact ⟨⟨G.1, by omega, G.2.2⟩, by omega⟩
/-- an operation is put behind the others, if there is room -/
theorem sp_emit {o o' v v' a : Int32} {dp : Nat} (cc : CC N mt K p c1 c2 h0) (H : CH N K p c1 c2 h0 op z h) (hv : gd c1 c2 (cE o v dp z) → o' = o ∧ v' = v ∧ nI (rDp z) + a = nI dp ∧ dp < 1000000 ∧ rDx z < 1000000) (hd : 0 < d) (hq : ∀ x h', CH N K p c1 c2 h0 op (cE o v dp z) h' → (gd c1 c2 (cE o v dp z) → x = nI (rCd z).length) → Q (some (.int x)) h') : aEv d 11 [.ref 39, .int o', .int v', .int a] h Q := by
  obtain ⟨H, fm⟩ := H
  have R3 := cc_R cc H
  obtain ⟨hp, _, _, _, _, ⟨y1, y2, _⟩, _⟩ := cc
  obtain ⟨⟨cb, kx⟩, ⟨n1, n3⟩, da, ft, sc, ⟨⟨sz, z1, z2⟩, pb2⟩, gx⟩ := H
  have s := cb.1
  have rm21 := cb.2.2.2.1.2
  rcases hp with rfl | rfl
  · have n1 : hN h 20 = c1 := n1
    have z1 : hI h 19 2 = nI sz := z1
    have z2 : sz ≤ hN h 20 := z2
    have n12 : hN h 21 = c1 := by omega
    have fin : ∀ x7 : Int32, (gd c1 c2 (cE o v dp z) → x7 = nI (max (rDx z) dp)) → (sz < c1 → Q (some (.int (nI sz + 1 - 1))) (pI (pA (pA (pI (pI h 39 6 (hI h 39 6 + a)) 39 7 x7) 20 (upd (hA h 20) sz o')) 21 (upd (hA h 21) sz v')) 19 2 (nI sz + 1))) ∧ (¬ sz < c1 → Q (some (.int (-1))) (pI (pI h 39 6 (hI h 39 6 + a)) 39 7 x7)) := by
      intro x7 hx7
      have kx2 : KX 19 h0 (pI (pI h 39 6 (hI h 39 6 + a)) 39 7 x7) := kx_I (kx_I kx (by unfold XP; omega)) (by unfold XP; omega)
      refine ⟨fun c => ?_, fun c => ?_⟩
      · refine hq _ _ ⟨⟨⟨cb_i (cb_a (cb_a (cb_i (cb_i cb)))), kx_I (kx_A (kx_A kx2 (by unfold XP; omega)) (by unfold XP; omega)) (by unfold XP; omega)⟩, ⟨n1, n3⟩, da, ft, sc, ⟨⟨sz + 1, nI_s sz, by show sz + 1 ≤ hN h 20; omega⟩, pb2⟩, fun G => ?_⟩, fm⟩ (fun G => ?_)
        · obtain ⟨o1, v1, w1, w2, w3⟩ := hv G
          obtain ⟨G0, G1⟩ := gd_E G
          obtain ⟨g1, g2, g3, g4, g5, g6, g7, g8, g9, g10⟩ := gx G0
          have es : sz = (rCd z).length := nI_inj (by omega) (by omega) (z1.symm.trans g4)
          refine ⟨?_, hx7 G, g3, ?_, fun i e he => ?_, g6, g7, g8, g9, g10⟩
          · show hI h 39 6 + a = nI dp
            rw [g1]; exact w1
          · rw [cd_E, ← es]; exact nI_s sz
          · show upd (hA h 20) sz o' i = e.1 ∧ upd (hA h 21) sz v' i = e.2
            unfold upd
            rcases ap1_c (l := rCd z) he with ⟨c1, c2⟩ | ⟨c1, rfl⟩
            · rw [if_neg (by omega), if_neg (by omega)]
              exact g5 i e c2
            · rw [if_pos (by omega), if_pos (by omega)]
              exact ⟨o1, v1⟩
        · obtain ⟨G0, G1⟩ := gd_E G
          have g4 := (gx G0).2.2.2.1
          have es : sz = (rCd z).length := nI_inj (by omega) (by omega) (z1.symm.trans g4)
          rw [nI_s, nI_m1, es]
      · have ng : ¬ gd c1 c2 (cE o v dp z) := fun G => by
          obtain ⟨G0, G1⟩ := gd_E G
          have g4 := (gx G0).2.2.2.1
          have es : sz = (rCd z).length := nI_inj (by omega) (by omega) (z1.symm.trans g4)
          omega
        exact hq _ _ ⟨⟨⟨cb_i (cb_i cb), kx2⟩, ⟨n1, n3⟩, da, ft, sc, ⟨⟨sz, z1, z2⟩, pb2⟩, fun G => absurd G ng⟩, fm⟩ (fun G => absurd G ng)
    have hm : gd c1 c2 (cE o v dp z) → hI h 39 7 = nI (rDx z) ∧ hI h 39 6 + a = nI dp ∧ dp < 1000000 ∧ rDx z < 1000000 := fun G => by
      obtain ⟨o1, v1, w1, w2, w3⟩ := hv G
      obtain ⟨g1, g2, _⟩ := gx (gd_E G).1
      exact ⟨g2, by rw [g1]; exact w1, w2, w3⟩
    have e1 : (nI sz < nI c1) = (sz < c1) := nI_ltN (by omega) (by omega)
    rw [e11_39a _ _ s R3, z1, n1, n12, e1, nI_ti (by omega), nI_cl (by omega), le0N, ltNN]
    refine ⟨hd, fun c => ⟨hd, ?_, ?_⟩, fun c => ⟨hd, ?_, ?_⟩⟩
    · intro c3
      refine ⟨⟨trivial, c3⟩, ⟨trivial, c3⟩, (fin _ (fun G => ?_)).1 c3⟩
      obtain ⟨m1, m2, m3, m4⟩ := hm G
      rw [m1, m2, nI_ltN (by omega) (by omega)] at c
      rw [m2, Nat.max_eq_right (by omega)]
    · refine (fin _ (fun G => ?_)).2
      obtain ⟨m1, m2, m3, m4⟩ := hm G
      rw [m1, m2, nI_ltN (by omega) (by omega)] at c
      rw [m2, Nat.max_eq_right (by omega)]
    · intro c3
      refine ⟨⟨trivial, c3⟩, ⟨trivial, c3⟩, (fin _ (fun G => ?_)).1 c3⟩
      obtain ⟨m1, m2, m3, m4⟩ := hm G
      rw [m1, m2, nI_ltN (by omega) (by omega)] at c
      rw [m1, Nat.max_eq_left (by omega)]
    · refine (fin _ (fun G => ?_)).2
      obtain ⟨m1, m2, m3, m4⟩ := hm G
      rw [m1, m2, nI_ltN (by omega) (by omega)] at c
      rw [m1, Nat.max_eq_left (by omega)]
  · have n1 : hN h 30 = c1 := n1
    have z1 : hI h 29 2 = nI sz := z1
    have z2 : sz ≤ hN h 30 := z2
    have n12 : hN h 31 = c1 := by omega
    have fin : ∀ x7 : Int32, (gd c1 c2 (cE o v dp z) → x7 = nI (max (rDx z) dp)) → (sz < c1 → Q (some (.int (nI sz + 1 - 1))) (pI (pA (pA (pI (pI h 39 6 (hI h 39 6 + a)) 39 7 x7) 30 (upd (hA h 30) sz o')) 31 (upd (hA h 31) sz v')) 29 2 (nI sz + 1))) ∧ (¬ sz < c1 → Q (some (.int (-1))) (pI (pI h 39 6 (hI h 39 6 + a)) 39 7 x7)) := by
      intro x7 hx7
      have kx2 : KX 29 h0 (pI (pI h 39 6 (hI h 39 6 + a)) 39 7 x7) := kx_I (kx_I kx (by unfold XP; omega)) (by unfold XP; omega)
      refine ⟨fun c => ?_, fun c => ?_⟩
      · refine hq _ _ ⟨⟨⟨cb_i (cb_a (cb_a (cb_i (cb_i cb)))), kx_I (kx_A (kx_A kx2 (by unfold XP; omega)) (by unfold XP; omega)) (by unfold XP; omega)⟩, ⟨n1, n3⟩, da, ft, sc, ⟨⟨sz + 1, nI_s sz, by show sz + 1 ≤ hN h 30; omega⟩, pb2⟩, fun G => ?_⟩, fm⟩ (fun G => ?_)
        · obtain ⟨o1, v1, w1, w2, w3⟩ := hv G
          obtain ⟨G0, G1⟩ := gd_E G
          obtain ⟨g1, g2, g3, g4, g5, g6, g7, g8, g9, g10⟩ := gx G0
          have es : sz = (rCd z).length := nI_inj (by omega) (by omega) (z1.symm.trans g4)
          refine ⟨?_, hx7 G, g3, ?_, fun i e he => ?_, g6, g7, g8, g9, g10⟩
          · show hI h 39 6 + a = nI dp
            rw [g1]; exact w1
          · rw [cd_E, ← es]; exact nI_s sz
          · show upd (hA h 30) sz o' i = e.1 ∧ upd (hA h 31) sz v' i = e.2
            unfold upd
            rcases ap1_c (l := rCd z) he with ⟨c1, c2⟩ | ⟨c1, rfl⟩
            · rw [if_neg (by omega), if_neg (by omega)]
              exact g5 i e c2
            · rw [if_pos (by omega), if_pos (by omega)]
              exact ⟨o1, v1⟩
        · obtain ⟨G0, G1⟩ := gd_E G
          have g4 := (gx G0).2.2.2.1
          have es : sz = (rCd z).length := nI_inj (by omega) (by omega) (z1.symm.trans g4)
          rw [nI_s, nI_m1, es]
      · have ng : ¬ gd c1 c2 (cE o v dp z) := fun G => by
          obtain ⟨G0, G1⟩ := gd_E G
          have g4 := (gx G0).2.2.2.1
          have es : sz = (rCd z).length := nI_inj (by omega) (by omega) (z1.symm.trans g4)
          omega
        exact hq _ _ ⟨⟨⟨cb_i (cb_i cb), kx2⟩, ⟨n1, n3⟩, da, ft, sc, ⟨⟨sz, z1, z2⟩, pb2⟩, fun G => absurd G ng⟩, fm⟩ (fun G => absurd G ng)
    have hm : gd c1 c2 (cE o v dp z) → hI h 39 7 = nI (rDx z) ∧ hI h 39 6 + a = nI dp ∧ dp < 1000000 ∧ rDx z < 1000000 := fun G => by
      obtain ⟨o1, v1, w1, w2, w3⟩ := hv G
      obtain ⟨g1, g2, _⟩ := gx (gd_E G).1
      exact ⟨g2, by rw [g1]; exact w1, w2, w3⟩
    have e1 : (nI sz < nI c1) = (sz < c1) := nI_ltN (by omega) (by omega)
    rw [e11_39b _ _ s R3, z1, n1, n12, e1, nI_ti (by omega), nI_cl (by omega), le0N, ltNN]
    refine ⟨hd, fun c => ⟨hd, ?_, ?_⟩, fun c => ⟨hd, ?_, ?_⟩⟩
    · intro c3
      refine ⟨⟨trivial, c3⟩, ⟨trivial, c3⟩, (fin _ (fun G => ?_)).1 c3⟩
      obtain ⟨m1, m2, m3, m4⟩ := hm G
      rw [m1, m2, nI_ltN (by omega) (by omega)] at c
      rw [m2, Nat.max_eq_right (by omega)]
    · refine (fin _ (fun G => ?_)).2
      obtain ⟨m1, m2, m3, m4⟩ := hm G
      rw [m1, m2, nI_ltN (by omega) (by omega)] at c
      rw [m2, Nat.max_eq_right (by omega)]
    · intro c3
      refine ⟨⟨trivial, c3⟩, ⟨trivial, c3⟩, (fin _ (fun G => ?_)).1 c3⟩
      obtain ⟨m1, m2, m3, m4⟩ := hm G
      rw [m1, m2, nI_ltN (by omega) (by omega)] at c
      rw [m1, Nat.max_eq_left (by omega)]
    · refine (fin _ (fun G => ?_)).2
      obtain ⟨m1, m2, m3, m4⟩ := hm G
      rw [m1, m2, nI_ltN (by omega) (by omega)] at c
      rw [m1, Nat.max_eq_left (by omega)]
/-- a fault is told -/
theorem sp_ctell {k : Nat} {k' : Int32} (cc : CC N mt K p c1 c2 h0) (H : CH0 N K p c1 c2 h0 op z h) (ek : k' = nI k) (hk : 0 < k ∧ k < 10) (hn1 : 1 ≤ n) (hn : n < N.1) (hd : 0 < d) (hq : ∀ h', CH N K p c1 c2 h0 op (cTl k (nQ N n) z) h' → Q none h') : aEv d 27 [.ref 39, .int k', .int (nI n)] h Q := by
  subst ek
  have r := cc_rd cc H
  have hpl := cc.2.2.2.2.2.2 n hn1 hn
  have hp := cc.1
  obtain ⟨⟨cb, kx⟩, nn, da, ft, sc, pb, gx⟩ := H
  have s := cb.1
  obtain ⟨⟨r1, r2, r3⟩, m1, m2, m3, m4, m5⟩ := r
  have e : hA h 12 n = nI (nQ N n) := (r3 n hn).2.2.1.trans hpl
  have x1 : (N.1 ≤ n) = False := eq_false (by omega)
  have x2 : (n < hN h 12) = True := eq_true (by omega)
  have x4 : (0 < d) = True := eq_true hd
  rw [e27_39 _ _ s, r1]
  simp (disch := omega) only [nI_lt0, nI_leN, nI_ti, nI_cl, le0N, ltNN, x1, x2, x4, false_imp_iff, not_false_eq_true, true_imp_iff, true_and, and_true, e]
  refine ⟨fun c => ?_, fun c => ?_⟩
  · have hz : rFl z ≠ none := fun w => c (ft.1 w).1
    have e2 : rFl (cTl k (nQ N n) z) = rFl z := if_neg hz
    refine hq _ ⟨⟨⟨cb, kx⟩, nn, da, ?_, sc, pb, fun G => absurd (e2.symm.trans G.1) hz⟩, fun G => absurd (e2.symm.trans G) hz⟩
    rw [e2]; exact ft
  · have hz : rFl z = none := Classical.byContradiction fun w => by
      obtain ⟨⟨k0, f0⟩, e0⟩ := Option.ne_none_iff_exists'.mp w
      obtain ⟨f1, f2, f3, f4⟩ := ft.2 k0 f0 e0
      rw [f1] at c
      have := nI_inj (a := k0) (b := 0) (by omega) (by omega) c
      omega
    have e2 : rFl (cTl k (nQ N n) z) = some (k, nQ N n) := if_pos hz
    have e3 : rFl (cTl k (nQ N n) z) ≠ none := by rw [e2]; simp
    refine hq _ ⟨⟨⟨cb_i (cb_i cb), kx_I (kx_I kx (Or.inl rfl)) (Or.inl rfl)⟩, nn, da, ?_, sc, ?_, fun G => absurd G.1 e3⟩, fun G => absurd G e3⟩
    · rw [e2]
      refine ⟨fun w => (by cases w), fun k1 f1 w => ?_⟩
      injection w with w
      injection w with w1 w2
      subst w1
      subst w2
      exact ⟨rfl, rfl, hk.1, hk.2⟩
    · rcases hp with rfl | rfl <;> exact pb
theorem ct_fl (h : rFl z ≠ none) : cCt N n z = (z.1, z.2.1, (rFm z + 1, rDp z, rDx z), rFl z) := by
  unfold cCt
  split
  · unfold cTl
    have : rFl (z.1, z.2.1, (rFm z + 1, rDp z, rDx z), rFl z) = rFl z := rfl
    rw [this, if_neg h]
  · rfl
/-- a form is counted -/
theorem sp_count (cc : CC N mt K p c1 c2 h0) (H : CH N K p c1 c2 h0 op z h) (hn1 : 1 ≤ n) (hn : n < N.1) (hd : 1 < d) (hq : ∀ h', CH N K p c1 c2 h0 op (cCt N n z) h' → Q none h') : aEv d 8 [.ref 39, .int (nI n)] h Q := by
  have h00 : 0 < d := by omega
  obtain ⟨H, fm⟩ := H
  have hp := cc.1
  have s := H.1.1.1
  have H1 : ∀ v : Int32, CH0 N K p c1 c2 h0 op (z.1, z.2.1, (rFm z + 1, rDp z, rDx z), rFl z) (pI h 39 5 v) := fun v => by
    obtain ⟨⟨cb, kx⟩, nn, da, ft, sc, pb, gx⟩ := H
    refine ⟨⟨cb_i cb, kx_I kx (by unfold XP; omega)⟩, nn, da, ft, sc, ?_, ?_⟩
    · rcases hp with rfl | rfl <;> exact pb
    · rcases hp with rfl | rfl <;> exact gx
  have out : ∀ h', CH N K p c1 c2 h0 op (cCt N n z) h' → aWP d 8 27 [(0, .ref 39), (1, .int (nI n))] [] h' Q := fun h' w => by
    simp only [lv_args, z_v, z_lg, z_h, z_u, z_u1, z_c, z_ct, z_sk, sbne, lst1_d, ldel, lst2_d, ldel2, z_sw, z_rok, zi, eq_self, List.map_cons, List.map_nil, List.append_nil, List.nil_append, List.cons_append, Int32.reduceLT, Int32.reduceLE, Int32.reduceAdd, Int32.reduceSub, Int32.reduceMul, Int32.reduceToInt, Int32.reduceToNatClampNeg, Int.reduceLT, Int.reduceLE, Int.reduceNeg, true_and, and_true, or_self, or_false, false_or, false_and, and_false, true_or, or_true, if_true, if_false, ne_eq, Classical.not_not, not_true_eq_false, not_false_eq_true, true_implies, false_implies, implies_true, Nat.reduceEqDiff, Nat.reduceAdd, Nat.reduceLeDiff, Nat.reduceSub, reduceCtorEq, reduceIte, b8_27]
    exact hq h' w
  have s1 : ∀ v : Int32, Sk (pI h 39 5 v) := fun v => sk_u1 s
  unfold aEv
  simp only [lv_args, z_v, z_lg, z_h, z_u, z_u1, z_c, z_ct, z_sk, sbne, lst1_d, ldel, lst2_d, ldel2, z_sw, z_rok, zi, eq_self, List.map_cons, List.map_nil, List.append_nil, List.nil_append, List.cons_append, Int32.reduceLT, Int32.reduceLE, Int32.reduceAdd, Int32.reduceSub, Int32.reduceMul, Int32.reduceToInt, Int32.reduceToNatClampNeg, Int.reduceLT, Int.reduceLE, Int.reduceNeg, true_and, and_true, or_self, or_false, false_or, false_and, and_false, true_or, or_true, if_true, if_false, ne_eq, Classical.not_not, not_true_eq_false, not_false_eq_true, true_implies, false_implies, implies_true, Nat.reduceEqDiff, Nat.reduceAdd, Nat.reduceLeDiff, Nat.reduceSub, reduceCtorEq, reduceIte, b8_0, skX s]
  by_cases c : rFl z = none
  · obtain ⟨f1, f2⟩ := fm c
    rw [f1, nI_s]
    have e15 : (1500 : Int32) = nI 1500 := rfl
    rw [e15, nI_leN (by omega) (by omega)]
    refine ⟨fun c3 => out _ ?_, fun c3 => ?_⟩
    · have e : cCt N n z = (z.1, z.2.1, (rFm z + 1, rDp z, rDx z), rFl z) := if_neg (by omega)
      rw [e]
      exact ⟨H1 _, fun _ => ⟨rfl, c3⟩⟩
    · have e : cCt N n z = cTl 6 (nQ N n) (z.1, z.2.1, (rFm z + 1, rDp z, rDx z), rFl z) := if_pos (by omega)
      simp only [lv_args, z_v, z_lg, z_h, z_u, z_u1, z_c, z_ct, z_sk, sbne, lst1_d, ldel, lst2_d, ldel2, z_sw, z_rok, zi, eq_self, List.map_cons, List.map_nil, List.append_nil, List.nil_append, List.cons_append, Int32.reduceLT, Int32.reduceLE, Int32.reduceAdd, Int32.reduceSub, Int32.reduceMul, Int32.reduceToInt, Int32.reduceToNatClampNeg, Int.reduceLT, Int.reduceLE, Int.reduceNeg, true_and, and_true, or_self, or_false, false_or, false_and, and_false, true_or, or_true, if_true, if_false, ne_eq, Classical.not_not, not_true_eq_false, not_false_eq_true, true_implies, false_implies, implies_true, Nat.reduceEqDiff, Nat.reduceAdd, Nat.reduceLeDiff, Nat.reduceSub, reduceCtorEq, reduceIte, b8_20, skX s, skX (s1 _), h00]
      refine sp_ctell (k := 6) cc (H1 _) rfl (by decide) hn1 hn (by omega) (fun h' w => ?_)
      simp only [lv_args, z_v, z_lg, z_h, z_u, z_u1, z_c, z_ct, z_sk, sbne, lst1_d, ldel, lst2_d, ldel2, z_sw, z_rok, zi, eq_self, List.map_cons, List.map_nil, List.append_nil, List.nil_append, List.cons_append, Int32.reduceLT, Int32.reduceLE, Int32.reduceAdd, Int32.reduceSub, Int32.reduceMul, Int32.reduceToInt, Int32.reduceToNatClampNeg, Int.reduceLT, Int.reduceLE, Int.reduceNeg, true_and, and_true, or_self, or_false, false_or, false_and, and_false, true_or, or_true, if_true, if_false, ne_eq, Classical.not_not, not_true_eq_false, not_false_eq_true, true_implies, false_implies, implies_true, Nat.reduceEqDiff, Nat.reduceAdd, Nat.reduceLeDiff, Nat.reduceSub, reduceCtorEq, reduceIte, b8_20, skX (s1 _), Nat.reduceLT]
      exact out h' (by rw [e]; exact w)
  · have e := ct_fl (N := N) (n := n) c
    refine ⟨fun c3 => out _ ?_, fun c3 => ?_⟩
    · rw [e]
      exact ⟨H1 _, fun w => absurd w c⟩
    · simp only [lv_args, z_v, z_lg, z_h, z_u, z_u1, z_c, z_ct, z_sk, sbne, lst1_d, ldel, lst2_d, ldel2, z_sw, z_rok, zi, eq_self, List.map_cons, List.map_nil, List.append_nil, List.nil_append, List.cons_append, Int32.reduceLT, Int32.reduceLE, Int32.reduceAdd, Int32.reduceSub, Int32.reduceMul, Int32.reduceToInt, Int32.reduceToNatClampNeg, Int.reduceLT, Int.reduceLE, Int.reduceNeg, true_and, and_true, or_self, or_false, false_or, false_and, and_false, true_or, or_true, if_true, if_false, ne_eq, Classical.not_not, not_true_eq_false, not_false_eq_true, true_implies, false_implies, implies_true, Nat.reduceEqDiff, Nat.reduceAdd, Nat.reduceLeDiff, Nat.reduceSub, reduceCtorEq, reduceIte, b8_20, skX s, skX (s1 _), h00]
      refine sp_ctell (k := 6) cc (H1 _) rfl (by decide) hn1 hn (by omega) (fun h' w => ?_)
      simp only [lv_args, z_v, z_lg, z_h, z_u, z_u1, z_c, z_ct, z_sk, sbne, lst1_d, ldel, lst2_d, ldel2, z_sw, z_rok, zi, eq_self, List.map_cons, List.map_nil, List.append_nil, List.nil_append, List.cons_append, Int32.reduceLT, Int32.reduceLE, Int32.reduceAdd, Int32.reduceSub, Int32.reduceMul, Int32.reduceToInt, Int32.reduceToNatClampNeg, Int.reduceLT, Int.reduceLE, Int.reduceNeg, true_and, and_true, or_self, or_false, false_or, false_and, and_false, true_or, or_true, if_true, if_false, ne_eq, Classical.not_not, not_true_eq_false, not_false_eq_true, true_implies, false_implies, implies_true, Nat.reduceEqDiff, Nat.reduceAdd, Nat.reduceLeDiff, Nat.reduceSub, reduceCtorEq, reduceIte, b8_20, skX (s1 _), Nat.reduceLT]
      refine out h' ?_
      rw [e]
      have e2 : cTl 6 (nQ N n) (z.1, z.2.1, (rFm z + 1, rDp z, rDx z), rFl z) = (z.1, z.2.1, (rFm z + 1, rDp z, rDx z), rFl z) := by
        unfold cTl
        have : rFl (z.1, z.2.1, (rFm z + 1, rDp z, rDx z), rFl z) = rFl z := rfl
        rw [this, if_neg c]
      rw [← e2]; exact w
/-- in last place the value is given back -/
theorem sp_gb {la : Bool} (cc : CC N mt K p c1 c2 h0) (H : CH N K p c1 c2 h0 op z h) (hb : gd c1 c2 z → rDp z < 1000000 ∧ rDx z < 1000000) (hd : 1 < d) (hq : ∀ h', CH N K p c1 c2 h0 op (cGb la z) h' → Q none h') : aEv d 14 [.ref 39, .int (bI la)] h Q := by
  have h00 : 0 < d := by omega
  have s := H.1.1.1.1
  have z10 : ¬ (1 : Int32) = 0 := by decide
  have out : ∀ h' x, CH N K p c1 c2 h0 op (cGb la z) h' → aWP d 14 13 [(0, .ref 39), (1, .int x)] [] h' Q := fun h' x w => by
    simp only [lv_args, z_v, z_lg, z_h, z_u, z_u1, z_c, z_ct, z_sk, sbne, lst1_d, ldel, lst2_d, ldel2, z_sw, z_rok, zi, eq_self, List.map_cons, List.map_nil, List.append_nil, List.nil_append, List.cons_append, Int32.reduceLT, Int32.reduceLE, Int32.reduceAdd, Int32.reduceSub, Int32.reduceMul, Int32.reduceToInt, Int32.reduceToNatClampNeg, Int.reduceLT, Int.reduceLE, Int.reduceNeg, true_and, and_true, or_self, or_false, false_or, false_and, and_false, true_or, or_true, if_true, if_false, ne_eq, Classical.not_not, not_true_eq_false, not_false_eq_true, true_implies, false_implies, implies_true, Nat.reduceEqDiff, Nat.reduceAdd, Nat.reduceLeDiff, Nat.reduceSub, reduceCtorEq, reduceIte, b14_13]
    exact hq h' w
  cases la with
  | false =>
    show aEv d 14 [.ref 39, .int 0] h Q
    unfold aEv
    simp only [lv_args, z_v, z_lg, z_h, z_u, z_u1, z_c, z_ct, z_sk, sbne, lst1_d, ldel, lst2_d, ldel2, z_sw, z_rok, zi, eq_self, List.map_cons, List.map_nil, List.append_nil, List.nil_append, List.cons_append, Int32.reduceLT, Int32.reduceLE, Int32.reduceAdd, Int32.reduceSub, Int32.reduceMul, Int32.reduceToInt, Int32.reduceToNatClampNeg, Int.reduceLT, Int.reduceLE, Int.reduceNeg, true_and, and_true, or_self, or_false, false_or, false_and, and_false, true_or, or_true, if_true, if_false, ne_eq, Classical.not_not, not_true_eq_false, not_false_eq_true, true_implies, false_implies, implies_true, Nat.reduceEqDiff, Nat.reduceAdd, Nat.reduceLeDiff, Nat.reduceSub, reduceCtorEq, reduceIte, b14_0, skX s]
    exact out h 0 H
  | true =>
    show aEv d 14 [.ref 39, .int 1] h Q
    unfold aEv
    simp only [lv_args, z_v, z_lg, z_h, z_u, z_u1, z_c, z_ct, z_sk, sbne, lst1_d, ldel, lst2_d, ldel2, z_sw, z_rok, zi, eq_self, List.map_cons, List.map_nil, List.append_nil, List.nil_append, List.cons_append, Int32.reduceLT, Int32.reduceLE, Int32.reduceAdd, Int32.reduceSub, Int32.reduceMul, Int32.reduceToInt, Int32.reduceToNatClampNeg, Int.reduceLT, Int.reduceLE, Int.reduceNeg, true_and, and_true, or_self, or_false, false_or, false_and, and_false, true_or, or_true, if_true, if_false, ne_eq, Classical.not_not, not_true_eq_false, not_false_eq_true, true_implies, false_implies, implies_true, Nat.reduceEqDiff, Nat.reduceAdd, Nat.reduceLeDiff, Nat.reduceSub, reduceCtorEq, reduceIte, b14_0, skX s, z10]
    simp only [lv_args, z_v, z_lg, z_h, z_u, z_u1, z_c, z_ct, z_sk, sbne, lst1_d, ldel, lst2_d, ldel2, z_sw, z_rok, zi, eq_self, List.map_cons, List.map_nil, List.append_nil, List.nil_append, List.cons_append, Int32.reduceLT, Int32.reduceLE, Int32.reduceAdd, Int32.reduceSub, Int32.reduceMul, Int32.reduceToInt, Int32.reduceToNatClampNeg, Int.reduceLT, Int.reduceLE, Int.reduceNeg, true_and, and_true, or_self, or_false, false_or, false_and, and_false, true_or, or_true, if_true, if_false, ne_eq, Classical.not_not, not_true_eq_false, not_false_eq_true, true_implies, false_implies, implies_true, Nat.reduceEqDiff, Nat.reduceAdd, Nat.reduceLeDiff, Nat.reduceSub, reduceCtorEq, reduceIte, b14_4, skX s, h00]
    refine sp_emit (o := 34) (v := 0) (dp := rDp z) cc H (fun G => ⟨rfl, rfl, ?_, hb (gd_E G).1⟩) (by omega) (fun x h' w _ => ?_)
    · exact Int32.add_zero _
    · have s1 := w.1.1.1.1
      simp only [lv_args, z_v, z_lg, z_h, z_u, z_u1, z_c, z_ct, z_sk, sbne, lst1_d, ldel, lst2_d, ldel2, z_sw, z_rok, zi, eq_self, List.map_cons, List.map_nil, List.append_nil, List.nil_append, List.cons_append, Int32.reduceLT, Int32.reduceLE, Int32.reduceAdd, Int32.reduceSub, Int32.reduceMul, Int32.reduceToInt, Int32.reduceToNatClampNeg, Int.reduceLT, Int.reduceLE, Int.reduceNeg, true_and, and_true, or_self, or_false, false_or, false_and, and_false, true_or, or_true, if_true, if_false, ne_eq, Classical.not_not, not_true_eq_false, not_false_eq_true, true_implies, false_implies, implies_true, Nat.reduceEqDiff, Nat.reduceAdd, Nat.reduceLeDiff, Nat.reduceSub, reduceCtorEq, reduceIte, b14_4, skX s, skX s1, Nat.reduceLT]
      exact out h' 1 w
/-- a jump leads to what comes next -/
theorem sp_land {x : Nat} {a : Int32} (cc : CC N mt K p c1 c2 h0) (H : CH N K p c1 c2 h0 op z h) (hx : gd c1 c2 z → a = nI x ∧ x < (rCd z).length) (hq : ∀ r h', CH N K p c1 c2 h0 op (cLd x z) h' → (gd c1 c2 z → r = ((rCd z).getD x (0, 0)).2) → Q (some (.int r)) h') : aEv d 102 [.ref p, .int a] h Q := by
  obtain ⟨H, fm⟩ := H
  obtain ⟨hp, _, _, _, _, ⟨y1, y2, _⟩, _⟩ := cc
  obtain ⟨⟨cb, kx⟩, ⟨n1, n3⟩, da, ft, sc, ⟨⟨sz, z1, z2⟩, pb2⟩, gx⟩ := H
  have s := cb.1
  have rm21 := cb.2.2.2.1.2
  have gL : gd c1 c2 (cLd x z) → gd c1 c2 z := fun G => ⟨G.1, by have := G.2.1; rw [cd_Ld] at this; exact this, G.2.2⟩
  rcases hp with rfl | rfl
  · have n1 : hN h 20 = c1 := n1
    have z1 : hI h 19 2 = nI sz := z1
    have z2 : sz ≤ hN h 20 := z2
    have n12 : hN h 21 = c1 := by omega
    have same : ¬ (¬ a < 0 ∧ a < nI sz) → Q (some (.int (-1))) h := fun c => by
      have ng : ¬ gd c1 c2 z := fun G => by
        obtain ⟨x1, x2⟩ := hx G
        have g4 := (gx G).2.2.2.1
        have es : sz = (rCd z).length := nI_inj (by omega) (by have := G.2.1; omega) (z1.symm.trans g4)
        refine c ⟨?_, ?_⟩
        · rw [x1]; exact nI_nl (by have := G.2.1; omega)
        · rw [x1, nI_ltN (by have := G.2.1; omega) (by omega)]; omega
      exact hq _ _ ⟨⟨⟨cb, kx⟩, ⟨n1, n3⟩, da, ft, sc, ⟨⟨sz, z1, z2⟩, pb2⟩, fun G => absurd (gL G) ng⟩, fm⟩ (fun G => absurd G ng)
    rw [e102_19 _ _ s, z1, n12]
    refine ⟨fun c => same (fun w => w.1 c), fun c => ⟨fun c3 => ?_, fun c3 => same (fun w => c3 w.2)⟩⟩
    have b1 := i32_0 c
    have b2 := i32_lt (by omega) c3
    refine ⟨⟨b1, by omega⟩, ⟨b1, by omega⟩, hq _ _ ⟨⟨⟨cb_a cb, kx_A kx (by unfold XP; omega)⟩, ⟨n1, n3⟩, da, ft, sc, ⟨⟨sz, z1, z2⟩, pb2⟩, fun G => ?_⟩, fm⟩ (fun G => ?_)⟩
    · have G0 := gL G
      obtain ⟨x1, x2⟩ := hx G0
      obtain ⟨g1, g2, g3, g4, g5, g6, g7, g8, g9, g10⟩ := gx G0
      have es : sz = (rCd z).length := nI_inj (by omega) (by have := G0.2.1; omega) (z1.symm.trans g4)
      refine ⟨g1, g2, g3, by rw [cd_Ld]; exact g4, fun i e he => ?_, g6, g7, g8, g9, g10⟩
      show hA h 20 i = e.1 ∧ upd (hA h 21) a.toNatClampNeg (nI sz) i = e.2
      have he : ((rCd z).set x (((rCd z).getD x (0, 0)).1, nI (rCd z).length))[i]? = some e := he
      have hcl : a.toNatClampNeg = x := by rw [x1, nI_cl (by have := G0.2.1; omega)]
      rw [hcl]
      unfold upd
      by_cases c : i = x
      · subst c
        rw [List.getElem?_set_self x2] at he
        injection he with he
        subst he
        have hg := List.getElem?_eq_getElem x2
        have hgd : (rCd z).getD i (0, 0) = (rCd z)[i] := by rw [List.getD_eq_getElem?_getD, hg]; rfl
        rw [if_pos rfl, es]
        exact ⟨by show hA h 20 i = ((rCd z).getD i (0, 0)).1; rw [hgd]; exact (g5 i _ hg).1, rfl⟩
      · rw [List.getElem?_set_ne (Ne.symm c)] at he
        rw [if_neg c]
        exact g5 i e he
    · obtain ⟨x1, x2⟩ := hx G
      obtain ⟨g1, g2, g3, g4, g5, _⟩ := gx G
      have hcl : a.toNatClampNeg = x := by rw [x1, nI_cl (by have := G.2.1; omega)]
      rw [hcl]
      have hg := List.getElem?_eq_getElem x2
      have hgd : (rCd z).getD x (0, 0) = (rCd z)[x] := by rw [List.getD_eq_getElem?_getD, hg]; rfl
      rw [hgd]
      exact (g5 x _ hg).2
  · have n1 : hN h 30 = c1 := n1
    have z1 : hI h 29 2 = nI sz := z1
    have z2 : sz ≤ hN h 30 := z2
    have n12 : hN h 31 = c1 := by omega
    have same : ¬ (¬ a < 0 ∧ a < nI sz) → Q (some (.int (-1))) h := fun c => by
      have ng : ¬ gd c1 c2 z := fun G => by
        obtain ⟨x1, x2⟩ := hx G
        have g4 := (gx G).2.2.2.1
        have es : sz = (rCd z).length := nI_inj (by omega) (by have := G.2.1; omega) (z1.symm.trans g4)
        refine c ⟨?_, ?_⟩
        · rw [x1]; exact nI_nl (by have := G.2.1; omega)
        · rw [x1, nI_ltN (by have := G.2.1; omega) (by omega)]; omega
      exact hq _ _ ⟨⟨⟨cb, kx⟩, ⟨n1, n3⟩, da, ft, sc, ⟨⟨sz, z1, z2⟩, pb2⟩, fun G => absurd (gL G) ng⟩, fm⟩ (fun G => absurd G ng)
    rw [e102_29 _ _ s, z1, n12]
    refine ⟨fun c => same (fun w => w.1 c), fun c => ⟨fun c3 => ?_, fun c3 => same (fun w => c3 w.2)⟩⟩
    have b1 := i32_0 c
    have b2 := i32_lt (by omega) c3
    refine ⟨⟨b1, by omega⟩, ⟨b1, by omega⟩, hq _ _ ⟨⟨⟨cb_a cb, kx_A kx (by unfold XP; omega)⟩, ⟨n1, n3⟩, da, ft, sc, ⟨⟨sz, z1, z2⟩, pb2⟩, fun G => ?_⟩, fm⟩ (fun G => ?_)⟩
    · have G0 := gL G
      obtain ⟨x1, x2⟩ := hx G0
      obtain ⟨g1, g2, g3, g4, g5, g6, g7, g8, g9, g10⟩ := gx G0
      have es : sz = (rCd z).length := nI_inj (by omega) (by have := G0.2.1; omega) (z1.symm.trans g4)
      refine ⟨g1, g2, g3, by rw [cd_Ld]; exact g4, fun i e he => ?_, g6, g7, g8, g9, g10⟩
      show hA h 30 i = e.1 ∧ upd (hA h 31) a.toNatClampNeg (nI sz) i = e.2
      have he : ((rCd z).set x (((rCd z).getD x (0, 0)).1, nI (rCd z).length))[i]? = some e := he
      have hcl : a.toNatClampNeg = x := by rw [x1, nI_cl (by have := G0.2.1; omega)]
      rw [hcl]
      unfold upd
      by_cases c : i = x
      · subst c
        rw [List.getElem?_set_self x2] at he
        injection he with he
        subst he
        have hg := List.getElem?_eq_getElem x2
        have hgd : (rCd z).getD i (0, 0) = (rCd z)[i] := by rw [List.getD_eq_getElem?_getD, hg]; rfl
        rw [if_pos rfl, es]
        exact ⟨by show hA h 30 i = ((rCd z).getD i (0, 0)).1; rw [hgd]; exact (g5 i _ hg).1, rfl⟩
      · rw [List.getElem?_set_ne (Ne.symm c)] at he
        rw [if_neg c]
        exact g5 i e he
    · obtain ⟨x1, x2⟩ := hx G
      obtain ⟨g1, g2, g3, g4, g5, _⟩ := gx G
      have hcl : a.toNatClampNeg = x := by rw [x1, nI_cl (by have := G.2.1; omega)]
      rw [hcl]
      have hg := List.getElem?_eq_getElem x2
      have hgd : (rCd z).getD x (0, 0) = (rCd z)[x] := by rw [List.getD_eq_getElem?_getD, hg]; rfl
      rw [hgd]
      exact (g5 x _ hg).2
/-- the depth is set -/
theorem ch_dp {dp : Nat} {v : Int32} (cc : CC N mt K p c1 c2 h0) (H : CH N K p c1 c2 h0 op z h) (hv : gd c1 c2 z → v = nI dp) : CH N K p c1 c2 h0 op (cDp dp z) (pI h 39 6 v) := by
  obtain ⟨⟨⟨cb, kx⟩, nn, da, ft, sc, pb, gx⟩, fm⟩ := H
  have hp := cc.1
  refine ⟨⟨⟨cb_i cb, kx_I kx (by unfold XP; omega)⟩, nn, da, ft, sc, ?_, fun G => ?_⟩, fm⟩
  · rcases hp with rfl | rfl <;> exact pb
  · obtain ⟨g1, g2, g3⟩ := gx G
    rcases hp with rfl | rfl <;> exact ⟨hv G, g2, g3⟩
theorem ch_dd {dp dx : Nat} {v w : Int32} (cc : CC N mt K p c1 c2 h0) (H : CH N K p c1 c2 h0 op z h) (hv : gd c1 c2 z → v = nI dp ∧ w = nI dx) : CH N K p c1 c2 h0 op (cDD dp dx z) (pI (pI h 39 6 v) 39 7 w) := by
  obtain ⟨⟨⟨cb, kx⟩, nn, da, ft, sc, pb, gx⟩, fm⟩ := H
  have hp := cc.1
  refine ⟨⟨⟨cb_i (cb_i cb), kx_I (kx_I kx (by unfold XP; omega)) (by unfold XP; omega)⟩, nn, da, ft, sc, ?_, fun G => ?_⟩, fm⟩
  · rcases hp with rfl | rfl <;> exact pb
  · obtain ⟨g1, g2, g3⟩ := gx G
    rcases hp with rfl | rfl <;> exact ⟨(hv G).1, (hv G).2, g3⟩
end CPR
