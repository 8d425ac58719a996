/-! closures made: the procedure, and all -/
section CORG
variable {h h' : Hp} {Q : Option Value → Hp → Prop} {d : Nat} {G : PG} {p pc : Nat} {cap : Nat} {s t xs : List Int64} {v x y c : Int64} {a b o : Int32} {ba : Nat} {se : Int32} {bk : List BK} {F F' : List Int64} {ce ce' : Nat} {gc : List Int64} {r n M i g : Nat} {P : List Int32 × List Int32 × Nat × Nat × Int64 × Nat}
theorem sp_newP {l k : Nat} (hd : 6 < d) (r : RY G p pc ba se bk cap gc P s F ce h) (hF : F.length + 1 + k ≤ 139999) (hc : ce + (1 + k) ≤ 40000) (hq : ∀ h' g, g.length = k → RY G p pc ba se bk cap gc P s (F ++ (nI l).toInt64 :: g) (ce + (1 + k)) h' → Q (some (.int (nI F.length))) h') : aEv d 42 [.ref 48, .int (nI l), .int (nI k)] h Q := by
  have h0 : 0 < d := by omega
  have r0 := r
  obtain ⟨r1, r2, r3, r4, r5, r6, r7⟩ := r
  have kk := r1.1
  obtain ⟨s1, g1, g2, g3⟩ := sx_r49 r1 (n := F.length + 1 + k) (by omega)
  obtain ⟨q1, q2⟩ := rxh_r49 r1 (n := F.length + 1 + k) (by omega) r5
  have k1 := s1.1
  have c1 : hI h 48 1 = nI F.length := r5.1
  have kp := kp_gro g1 (by decide)
  have rp : ∀ inp out, RXp inp out h → RXp inp out (rmJ h 49 (F.length + 1 + k)) := fun _ _ q => rxp_gro g1 (by decide) q
  have i1 := g1.2.1
  obtain ⟨b1, b2, b3, b4, b5, b6, b7, b8, b9⟩ := q1
  have b3' : hN (rmJ h 49 (F.length + 1 + k)) 49 < 1000000 := b3
  unfold aEv
  simp only [lv_args, z_v, z_lg, z_h, z_u, z_u1, z_c, z_ct, z_sk, sbne, lst1_d, ldel, lst2_d, ldel2, z_sw, z_rok, zi, eq_self, List.map_cons, List.map_nil, List.append_nil, List.nil_append, List.cons_append, Int32.reduceLT, Int32.reduceLE, Int32.reduceAdd, Int32.reduceSub, Int32.reduceMul, Int32.reduceToInt, Int32.reduceToNatClampNeg, Int.reduceLT, Int.reduceLE, Int.reduceNeg, true_and, and_true, or_self, or_false, false_or, false_and, and_false, true_or, or_true, if_true, if_false, ne_eq, Classical.not_not, not_true_eq_false, not_false_eq_true, true_implies, false_implies, implies_true, Nat.reduceEqDiff, Nat.reduceAdd, Nat.reduceLeDiff, Nat.reduceSub, reduceCtorEq, reduceIte, b42_0, skX kk, srX kk, c1, nI_1, nI_add]
  refine grw_J (st := []) mm_42 dX2_newProcedure_15 ml_2_21 dX2_newProcedure_18 fl_2_9 rfl (by unfold finOK; decide +kernel) (by omega) kk r1.2.1 r1.2.2.1 (kk.1 48 (by decide)) (by decide) (kk.2.1 48 0 rfl) (kk.1 49 (by decide)) (by decide) (by decide) op_n3.2.2.2.2.1 (fun z hz q e => ?_) (by omega) (by have := r5.2.2.1; omega) ?_
  · simp only [List.mem_cons, List.not_mem_nil, or_false] at hz
    rcases hz with rfl | rfl | rfl | rfl
    · cases e
    · injection e with e
      subst e
      exact ⟨by decide, by decide⟩
    · cases e
    · cases e
  · generalize hH : rmJ h 49 (F.length + 1 + k) = H at *
    simp only [lv_args, z_v, z_lg, z_h, z_u, z_u1, z_c, z_ct, z_sk, sbne, lst1_d, ldel, lst2_d, ldel2, z_sw, z_rok, zi, eq_self, List.map_cons, List.map_nil, List.append_nil, List.nil_append, List.cons_append, Int32.reduceLT, Int32.reduceLE, Int32.reduceAdd, Int32.reduceSub, Int32.reduceMul, Int32.reduceToInt, Int32.reduceToNatClampNeg, Int.reduceLT, Int.reduceLE, Int.reduceNeg, true_and, and_true, or_self, or_false, false_or, false_and, and_false, true_or, or_true, if_true, if_false, ne_eq, Classical.not_not, not_true_eq_false, not_false_eq_true, true_implies, false_implies, implies_true, Nat.reduceEqDiff, Nat.reduceAdd, Nat.reduceLeDiff, Nat.reduceSub, reduceCtorEq, reduceIte, b42_21, skX k1, h0, nI_1, nI_add]
    refine sp_pt (h := pI H 48 1 (nI (F.length + 1 + k))) (sz := F.length + 1 + k) ((sk_same rfl rfl rfl : Sk _ = Sk H) ▸ k1) rfl (by omega) q2 b3 ?_
    have e2 : hI H 48 2 = nI ce := by rw [i1]; exact r5.2.2.2.2.1
    have z1 : (1 : Int32) = nI 1 := rfl
    simp only [lv_args, z_v, z_lg, z_h, z_u, z_u1, z_c, z_ct, z_sk, sbne, lst1_d, ldel, lst2_d, ldel2, z_sw, z_rok, zi, eq_self, List.map_cons, List.map_nil, List.append_nil, List.nil_append, List.cons_append, Int32.reduceLT, Int32.reduceLE, Int32.reduceAdd, Int32.reduceSub, Int32.reduceMul, Int32.reduceToInt, Int32.reduceToNatClampNeg, Int.reduceLT, Int.reduceLE, Int.reduceNeg, true_and, and_true, or_self, or_false, false_or, false_and, and_false, true_or, or_true, if_true, if_false, ne_eq, Classical.not_not, not_true_eq_false, not_false_eq_true, true_implies, false_implies, implies_true, Nat.reduceEqDiff, Nat.reduceAdd, Nat.reduceLeDiff, Nat.reduceSub, reduceCtorEq, reduceIte, b42_21, skX k1, e2, z1, nI_add]
    refine hq _ ((List.range k).map (fun j => hB H 49 (F.length + 1 + j))) (by simp) (ry_F (h := h) r0 (sx_I (by decide) (sx_B (sx_I (by decide) s1))) (kp_tr kp (kp_tr (kp_I (by decide)) (kp_tr (kp_B (by decide)) (kp_I (by decide))))) ⟨?_, ?_, b3, ?_, rfl, hc, b7, b8, b9⟩ (fun q => rxp_I (by decide) (show RXp _ _ (pI H 48 1 (nI (F.length + 1 + k))) from rxp_I (by decide) (rp _ _ q))))
    · show nI (F.length + 1 + k) = _
      simp only [List.length_append, List.length_cons, List.length_map, List.length_range]
      congr 1
      omega
    · show _ ≤ hN H 49
      simp only [List.length_append, List.length_cons, List.length_map, List.length_range]
      omega
    · intro j w e
      show vp_updL (hB H 49) F.length (nI l).toInt64 j = w
      unfold vp_updL
      by_cases c : j < F.length
      · rw [List.getElem?_append_left c] at e
        rw [if_neg (by omega)]
        exact b4 j w e
      · rw [List.getElem?_append_right (by omega)] at e
        by_cases c2 : j = F.length
        · subst c2
          rw [Nat.sub_self] at e
          simp at e
          rw [if_pos rfl]; exact e
        · rw [if_neg c2]
          obtain ⟨m, hm⟩ : ∃ m, j = F.length + 1 + m := ⟨j - F.length - 1, by omega⟩
          subst hm
          rw [show F.length + 1 + m - F.length = m + 1 by omega, List.getElem?_cons_succ, List.getElem?_map] at e
          have hl : m < k := by
            cases hh : (List.range k)[m]? with
            | none => rw [hh] at e; cases e
            | some q => have := g_lt hh; simpa using this
          rw [List.getElem?_range hl] at e
          simp at e
          exact e
theorem op_close (hd : 12 < d) (r : RY G p pc ba se bk cap gc P s F ce h) (h1 : 1 ≤ M) (h2 : M ≤ pLm G) (h3 : pLm G ≤ 120) (hfr : pFr G M ≤ 250) (hba : ba < 1000000) (hF : F.length ≤ 133010) (hF2 : F.length ≤ 13000 + 3 * ce) (q1 : ¬ ce + (1 + pFr G M) ≤ 40000 → Q none (pI (pI h 47 13 16) 47 14 0))
    (q2 : ce + (1 + pFr G M) ≤ 40000 → s.length < cap ∧ ∀ g : List Int64, g.length = pFr G M → ∃ s' F', s'.length = s.length ∧ Clo G M ba se F.length (pFr G M) 0 s (F ++ (nI (M - 1)).toInt64 :: g) s' F' ∧ ∀ h', RY G p pc ba se bk cap gc P s' F' (ce + (1 + pFr G M)) h' → Q none (pI (hPs h' s'.length (vof 7 (nI F.length))) 47 7 (nI (pc + 1)))) : aEv d 52 [.ref 47, .int (nI (M - 1))] h Q := by
  have h0 : 0 < d := by omega
  have r0 := r
  obtain ⟨r1, r2, r3, r4, r5, r6, r7⟩ := r
  have k := r1.1
  have kp : hK h p = 7 := by rcases r1.2.2.2.1.1 with rfl | rfl <;> exact k.1 _ (by decide)
  have rr := r1.2.2.2.2.1
  have c2 : hI h 48 2 = nI ce := r5.2.2.2.2.1
  have hce : ce ≤ 40000 := r5.2.2.2.2.2.1
  have z1 : (1 : Int32) = nI 1 := rfl
  have n4 : (40000 : Int32) = nI 40000 := rfl
  have z10 : ¬ (1 : Int32) = 0 := by decide
  unfold aEv
  simp only [lv_args, z_v, z_lg, z_h, z_u, z_u1, z_c, z_ct, z_sk, sbne, lst1_d, ldel, lst2_d, ldel2, z_sw, z_rok, zi, eq_self, List.map_cons, List.map_nil, List.append_nil, List.nil_append, List.cons_append, Int32.reduceLT, Int32.reduceLE, Int32.reduceAdd, Int32.reduceSub, Int32.reduceMul, Int32.reduceToInt, Int32.reduceToNatClampNeg, Int.reduceLT, Int.reduceLE, Int.reduceNeg, true_and, and_true, or_self, or_false, false_or, false_and, and_false, true_or, or_true, if_true, if_false, ne_eq, Classical.not_not, not_true_eq_false, not_false_eq_true, true_implies, false_implies, implies_true, Nat.reduceEqDiff, Nat.reduceAdd, Nat.reduceLeDiff, Nat.reduceSub, reduceCtorEq, reduceIte, b52_0, skX k, h0, rr, kp]
  refine (px_tb r1 h1 h2 h3).2.2.2 _ ?_
  simp only [lv_args, z_v, z_lg, z_h, z_u, z_u1, z_c, z_ct, z_sk, sbne, lst1_d, ldel, lst2_d, ldel2, z_sw, z_rok, zi, eq_self, List.map_cons, List.map_nil, List.append_nil, List.nil_append, List.cons_append, Int32.reduceLT, Int32.reduceLE, Int32.reduceAdd, Int32.reduceSub, Int32.reduceMul, Int32.reduceToInt, Int32.reduceToNatClampNeg, Int.reduceLT, Int.reduceLE, Int.reduceNeg, true_and, and_true, or_self, or_false, false_or, false_and, and_false, true_or, or_true, if_true, if_false, ne_eq, Classical.not_not, not_true_eq_false, not_false_eq_true, true_implies, false_implies, implies_true, Nat.reduceEqDiff, Nat.reduceAdd, Nat.reduceLeDiff, Nat.reduceSub, reduceCtorEq, reduceIte, b52_0, skX k, srX k, h0, e35_48 _ _ k, c2]
  rw [z1, nI_add, nI_add, n4]
  simp (disch := omega) only [nI_ltN]
  refine ⟨fun c => ?_, fun c => ?_⟩
  · simp only [lv_args, z_v, z_lg, z_h, z_u, z_u1, z_c, z_ct, z_sk, sbne, lst1_d, ldel, lst2_d, ldel2, z_sw, z_rok, zi, eq_self, List.map_cons, List.map_nil, List.append_nil, List.nil_append, List.cons_append, Int32.reduceLT, Int32.reduceLE, Int32.reduceAdd, Int32.reduceSub, Int32.reduceMul, Int32.reduceToInt, Int32.reduceToNatClampNeg, Int.reduceLT, Int.reduceLE, Int.reduceNeg, true_and, and_true, or_self, or_false, false_or, false_and, and_false, true_or, or_true, if_true, if_false, ne_eq, Classical.not_not, not_true_eq_false, not_false_eq_true, true_implies, false_implies, implies_true, Nat.reduceEqDiff, Nat.reduceAdd, Nat.reduceLeDiff, Nat.reduceSub, reduceCtorEq, reduceIte, b52_22, skX k, h0, e55_47 _ _ k]
    exact q1 (by omega)
  · obtain ⟨hcap, q2⟩ := q2 (by omega)
    have zz : ¬ nI 1 = (0 : Int32) := by decide
    simp only [lv_args, z_v, z_lg, z_h, z_u, z_u1, z_c, z_ct, z_sk, sbne, lst1_d, ldel, lst2_d, ldel2, z_sw, z_rok, zi, eq_self, List.map_cons, List.map_nil, List.append_nil, List.nil_append, List.cons_append, Int32.reduceLT, Int32.reduceLE, Int32.reduceAdd, Int32.reduceSub, Int32.reduceMul, Int32.reduceToInt, Int32.reduceToNatClampNeg, Int.reduceLT, Int.reduceLE, Int.reduceNeg, true_and, and_true, or_self, or_false, false_or, false_and, and_false, true_or, or_true, if_true, if_false, ne_eq, Classical.not_not, not_true_eq_false, not_false_eq_true, true_implies, false_implies, implies_true, Nat.reduceEqDiff, Nat.reduceAdd, Nat.reduceLeDiff, Nat.reduceSub, reduceCtorEq, reduceIte, b52_29, zz, skX k, srX k, h0]
    refine sp_newP (by omega) r0 (by omega) (by omega) fun h' g hg rg => ?_
    obtain ⟨s', F', hs, hc, q3⟩ := q2 g hg
    simp only [lv_args, z_v, z_lg, z_h, z_u, z_u1, z_c, z_ct, z_sk, sbne, lst1_d, ldel, lst2_d, ldel2, z_sw, z_rok, zi, eq_self, List.map_cons, List.map_nil, List.append_nil, List.nil_append, List.cons_append, Int32.reduceLT, Int32.reduceLE, Int32.reduceAdd, Int32.reduceSub, Int32.reduceMul, Int32.reduceToInt, Int32.reduceToNatClampNeg, Int.reduceLT, Int.reduceLE, Int.reduceNeg, true_and, and_true, or_self, or_false, false_or, false_and, and_false, true_or, or_true, if_true, if_false, ne_eq, Classical.not_not, not_true_eq_false, not_false_eq_true, true_implies, false_implies, implies_true, Nat.reduceEqDiff, Nat.reduceAdd, Nat.reduceLeDiff, Nat.reduceSub, reduceCtorEq, reduceIte, b52_29, skX k, Nat.reduceLT]
    refine clo_loop (a := F.length) (by omega) h1 h2 h3 hfr hba s' F' ?_ (pFr G M) 0 s _ h' _ (by omega) (by simp; omega) (by simp; omega) hc rg ?_ rfl rfl rfl rfl rfl
    · intro L h2' lx l0 l3 rf
      have kf := rf.1.1
      obtain ⟨a1, a2, a3, a4, a5⟩ := rf.2.2.1
      have a1 : hI h2' 47 4 = nI s'.length := a1
      have a3 : cap ≤ hN h2' 53 := a3
      have f7 : hI h2' 47 7 = nI pc := rf.2.2.2.1.2.2.1
      simp only [lv_args, z_v, z_lg, z_h, z_u, z_u1, z_c, z_ct, z_sk, sbne, z_rok, zi, eq_self, List.map_cons, List.map_nil, List.append_nil, List.nil_append, List.cons_append, Int32.reduceLT, Int32.reduceLE, Int32.reduceAdd, Int32.reduceSub, Int32.reduceMul, Int32.reduceToInt, Int32.reduceToNatClampNeg, Int.reduceLT, Int.reduceLE, Int.reduceNeg, true_and, and_true, or_self, or_false, false_or, false_and, and_false, true_or, or_true, if_true, if_false, ne_eq, Classical.not_not, not_true_eq_false, not_false_eq_true, true_implies, false_implies, implies_true, Nat.reduceEqDiff, Nat.reduceAdd, Nat.reduceLeDiff, Nat.reduceSub, reduceCtorEq, reduceIte, b52_116, skX kf, h0, l0, l3, e157v]
      refine sp_push kf a1 (by omega) a4 ?_
      refine ⟨rfl, Or.inl rfl, ?_⟩
      simp only [lv_args, z_v, z_lg, z_h, z_u, z_u1, z_c, z_ct, z_sk, sbne, z_rok, zi, eq_self, List.map_cons, List.map_nil, List.append_nil, List.nil_append, List.cons_append, Int32.reduceLT, Int32.reduceLE, Int32.reduceAdd, Int32.reduceSub, Int32.reduceMul, Int32.reduceToInt, Int32.reduceToNatClampNeg, Int.reduceLT, Int.reduceLE, Int.reduceNeg, true_and, and_true, or_self, or_false, false_or, false_and, and_false, true_or, or_true, if_true, if_false, ne_eq, Classical.not_not, not_true_eq_false, not_false_eq_true, true_implies, false_implies, implies_true, Nat.reduceEqDiff, Nat.reduceAdd, Nat.reduceLeDiff, Nat.reduceSub, reduceCtorEq, reduceIte, b52_116, hPs, skX kf, h0, l0, f7, nI_1, Option.toList]
      exact q3 h2' rf
    · intro q hq
      simp only [List.mem_cons, List.not_mem_nil, or_false] at hq
      rcases hq with rfl | rfl | rfl | rfl | rfl
      · exact Or.inr ⟨_, rfl⟩
      · exact Or.inr ⟨_, rfl⟩
      · exact Or.inr ⟨_, rfl⟩
      · exact Or.inl rfl
      · exact Or.inr ⟨_, rfl⟩
end CORG
