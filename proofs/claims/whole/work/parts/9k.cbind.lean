/-! BUILD. Names that are bound -/
section CBN
variable {h h' h0 : Hp} {Q : Option Value → Hp → Prop} {d p c1 c2 n g b : Nat} {N : NS} {mt op : List Nat} {K : List KY} {z : CR}
/-- where the name of a part stands -/
def erN (N : NS) (c : Nat) : Nat := if nK N c = 6 then prt N c 0 else c
def Ern (N : NS) (c : Nat) : Prop := (nK N c = 6 → nF N c = nI (prt N c 0)) ∧ 1 ≤ erN N c ∧ erN N c < N.1 ∧ nK N (erN N c) = 5
/-- a fault is told at once, not by the compiler's tell -/
theorem sp_ftell {k : Nat} {k' : Int32} (cc : CC N mt K p c1 c2 h0) (H : CH0 N K p c1 c2 h0 op z h) (ek : k' = nI k) (hk : 0 < k ∧ k < 10) (hq : ∀ h', CH N K p c1 c2 h0 op (cTl k (nQ N n) z) h' → Q none h') : aEv d 33 [.ref 2, .int k', .int (nI (nQ N n))] h Q := by
  subst ek
  have hp := cc.1
  obtain ⟨⟨cb, kx⟩, nn, da, ft, sc, pb, gx⟩ := H
  have s := cb.1
  rw [e33_2 _ _ s]
  refine ⟨fun c => ?_, fun c => ?_⟩
  · have hz : rFl z ≠ none := fun w => c (ft.1 w).1
    have e2 : rFl (cTl k (nQ N n) z) = rFl z := if_neg hz
    refine hq _ ⟨⟨⟨cb, kx⟩, nn, da, ?_, sc, pb, fun G => absurd (e2.symm.trans G.1) hz⟩, fun G => absurd (e2.symm.trans G) hz⟩
    rw [e2]; exact ft
  · have hz : rFl z = none := Classical.byContradiction fun w => by
      obtain ⟨⟨k0, f0⟩, e0⟩ := Option.ne_none_iff_exists'.mp w
      obtain ⟨f1, f2, f3, f4⟩ := ft.2 k0 f0 e0
      rw [f1] at c
      have := nI_inj (a := k0) (b := 0) (by omega) (by omega) c
      omega
    have e2 : rFl (cTl k (nQ N n) z) = some (k, nQ N n) := if_pos hz
    have e3 : rFl (cTl k (nQ N n) z) ≠ none := by rw [e2]; simp
    refine hq _ ⟨⟨⟨cb_i (cb_i cb), kx_I (kx_I kx (Or.inl rfl)) (Or.inl rfl)⟩, nn, da, ?_, sc, ?_, fun G => absurd G.1 e3⟩, fun G => absurd G e3⟩
    · rw [e2]
      refine ⟨fun w => (by cases w), fun k1 f1 w => ?_⟩
      injection w with w
      injection w with w1 w2
      subst w1
      subst w2
      exact ⟨rfl, rfl, hk.1, hk.2⟩
    · rcases hp with rfl | rfl <;> exact pb
theorem sp_ckb {L k : Nat} (cc : CC N mt K p c1 c2 h0) (H : CH N K p c1 c2 h0 op z h) (hL : L < N.1) (hF : nF N L = oI (pts N L).head?) (tl : TL g N (pts N L) (L + 1) b) (he : ∀ c, c ∈ pts N L → Ern N c) (hk : k ≤ (pts N L).length) (hn1 : 1 ≤ n) (hn : n < N.1) (h5 : nK N n = 5) (hd : 2 < d) (hq : ∀ h', CH N K p c1 c2 h0 op (cCk N (((pts N L).take k).map (fun c => nCn N (erN N c))) n z) h' → Q none h') : aEv d 6 [.ref 39, .int (nI L), .int (nI k), .int (nI n)] h Q := by
  have h00 : 0 < d := by omega
  have s := H.1.1.1.1
  have r := cc_rd cc H.1
  have nk := cc.2.2.2.2.1
  have hNm := nk.2.2
  have hlen := tl_len tl
  obtain ⟨j, hj, ej, ej2, hj3⟩ := nok_name nk hn1 hn h5
  have z10 : ¬ (1 : Int32) = 0 := by decide
  have z30 : (30 : Int32) = nI 30 := rfl
  have eb0 : bI false = 0 := rfl
  have eb1 : bI true = 1 := rfl
  -- the end
  have fin : ∀ (y6 y5 : Int32) (T : ALS) (f : Bool), (T = [] ∨ ∃ x, T = [(7, .int x)]) → (f = true ↔ 30 ≤ j ∧ j ∉ ((pts N L).take k).map (fun c => nCn N (erN N c))) → aWP d 6 116 ((6, .int y6) :: (5, .int y5) :: (4, .int (bI f)) :: (T ++ [(0, .ref 39), (1, .int (nI L)), (2, .int (nI k)), (3, .int (nI n))])) [] h Q := by
    intro y6 y5 T f hT hf
    unfold cCk at hq
    rw [ej2] at hq
    rcases hT with rfl | ⟨x, rfl⟩
    · simp only [List.nil_append, List.cons_append]
      cases f with
      | true =>
        rw [if_pos (hf.mp rfl)] at hq
        simp only [lv_args, z_v, z_lg, z_h, z_u, z_u1, z_c, z_ct, z_sk, sbne, lst1_d, ldel, lst2_d, ldel2, z_sw, z_rok, zi, eq_self, List.map_cons, List.map_nil, List.append_nil, List.nil_append, List.cons_append, Int32.reduceLT, Int32.reduceLE, Int32.reduceAdd, Int32.reduceSub, Int32.reduceMul, Int32.reduceToInt, Int32.reduceToNatClampNeg, Int.reduceLT, Int.reduceLE, Int.reduceNeg, true_and, and_true, or_self, or_false, false_or, false_and, and_false, true_or, or_true, if_true, if_false, ne_eq, Classical.not_not, not_true_eq_false, not_false_eq_true, true_implies, false_implies, implies_true, Nat.reduceEqDiff, Nat.reduceAdd, Nat.reduceLeDiff, Nat.reduceSub, reduceCtorEq, reduceIte, b6_116, eb1, z10]
        simp only [lv_args, z_v, z_lg, z_h, z_u, z_u1, z_c, z_ct, z_sk, sbne, lst1_d, ldel, lst2_d, ldel2, z_sw, z_rok, zi, eq_self, List.map_cons, List.map_nil, List.append_nil, List.nil_append, List.cons_append, Int32.reduceLT, Int32.reduceLE, Int32.reduceAdd, Int32.reduceSub, Int32.reduceMul, Int32.reduceToInt, Int32.reduceToNatClampNeg, Int.reduceLT, Int.reduceLE, Int.reduceNeg, true_and, and_true, or_self, or_false, false_or, false_and, and_false, true_or, or_true, if_true, if_false, ne_eq, Classical.not_not, not_true_eq_false, not_false_eq_true, true_implies, false_implies, implies_true, Nat.reduceEqDiff, Nat.reduceAdd, Nat.reduceLeDiff, Nat.reduceSub, reduceCtorEq, reduceIte, b6_137]
        exact hq h H
      | false =>
        rw [if_neg (fun w => by have := hf.mpr w; cases this)] at hq
        simp only [lv_args, z_v, z_lg, z_h, z_u, z_u1, z_c, z_ct, z_sk, sbne, lst1_d, ldel, lst2_d, ldel2, z_sw, z_rok, zi, eq_self, List.map_cons, List.map_nil, List.append_nil, List.nil_append, List.cons_append, Int32.reduceLT, Int32.reduceLE, Int32.reduceAdd, Int32.reduceSub, Int32.reduceMul, Int32.reduceToInt, Int32.reduceToNatClampNeg, Int.reduceLT, Int.reduceLE, Int.reduceNeg, true_and, and_true, or_self, or_false, false_or, false_and, and_false, true_or, or_true, if_true, if_false, ne_eq, Classical.not_not, not_true_eq_false, not_false_eq_true, true_implies, false_implies, implies_true, Nat.reduceEqDiff, Nat.reduceAdd, Nat.reduceLeDiff, Nat.reduceSub, reduceCtorEq, reduceIte, b6_116, eb0]
        simp only [lv_args, z_v, z_lg, z_h, z_u, z_u1, z_c, z_ct, z_sk, sbne, lst1_d, ldel, lst2_d, ldel2, z_sw, z_rok, zi, eq_self, List.map_cons, List.map_nil, List.append_nil, List.nil_append, List.cons_append, Int32.reduceLT, Int32.reduceLE, Int32.reduceAdd, Int32.reduceSub, Int32.reduceMul, Int32.reduceToInt, Int32.reduceToNatClampNeg, Int.reduceLT, Int.reduceLE, Int.reduceNeg, true_and, and_true, or_self, or_false, false_or, false_and, and_false, true_or, or_true, if_true, if_false, ne_eq, Classical.not_not, not_true_eq_false, not_false_eq_true, true_implies, false_implies, implies_true, Nat.reduceEqDiff, Nat.reduceAdd, Nat.reduceLeDiff, Nat.reduceSub, reduceCtorEq, reduceIte, b6_121, skX s, srX s, h00, rd_p s r hn, cc.2.2.2.2.2.2 n hn1 hn, Nat.reduceLT]
        refine sp_ftell (n := n) (k := 5) cc H.1 rfl (by decide) (fun h1 H1 => ?_)
        have s1 := H1.1.1.1.1
        simp only [lv_args, z_v, z_lg, z_h, z_u, z_u1, z_c, z_ct, z_sk, sbne, lst1_d, ldel, lst2_d, ldel2, z_sw, z_rok, zi, eq_self, List.map_cons, List.map_nil, List.append_nil, List.nil_append, List.cons_append, Int32.reduceLT, Int32.reduceLE, Int32.reduceAdd, Int32.reduceSub, Int32.reduceMul, Int32.reduceToInt, Int32.reduceToNatClampNeg, Int.reduceLT, Int.reduceLE, Int.reduceNeg, true_and, and_true, or_self, or_false, false_or, false_and, and_false, true_or, or_true, if_true, if_false, ne_eq, Classical.not_not, not_true_eq_false, not_false_eq_true, true_implies, false_implies, implies_true, Nat.reduceEqDiff, Nat.reduceAdd, Nat.reduceLeDiff, Nat.reduceSub, reduceCtorEq, reduceIte, b6_137, skX s, skX s1, Nat.reduceLT]
        exact hq h1 H1
    · simp only [List.nil_append, List.cons_append]
      cases f with
      | true =>
        rw [if_pos (hf.mp rfl)] at hq
        simp only [lv_args, z_v, z_lg, z_h, z_u, z_u1, z_c, z_ct, z_sk, sbne, lst1_d, ldel, lst2_d, ldel2, z_sw, z_rok, zi, eq_self, List.map_cons, List.map_nil, List.append_nil, List.nil_append, List.cons_append, Int32.reduceLT, Int32.reduceLE, Int32.reduceAdd, Int32.reduceSub, Int32.reduceMul, Int32.reduceToInt, Int32.reduceToNatClampNeg, Int.reduceLT, Int.reduceLE, Int.reduceNeg, true_and, and_true, or_self, or_false, false_or, false_and, and_false, true_or, or_true, if_true, if_false, ne_eq, Classical.not_not, not_true_eq_false, not_false_eq_true, true_implies, false_implies, implies_true, Nat.reduceEqDiff, Nat.reduceAdd, Nat.reduceLeDiff, Nat.reduceSub, reduceCtorEq, reduceIte, b6_116, eb1, z10]
        simp only [lv_args, z_v, z_lg, z_h, z_u, z_u1, z_c, z_ct, z_sk, sbne, lst1_d, ldel, lst2_d, ldel2, z_sw, z_rok, zi, eq_self, List.map_cons, List.map_nil, List.append_nil, List.nil_append, List.cons_append, Int32.reduceLT, Int32.reduceLE, Int32.reduceAdd, Int32.reduceSub, Int32.reduceMul, Int32.reduceToInt, Int32.reduceToNatClampNeg, Int.reduceLT, Int.reduceLE, Int.reduceNeg, true_and, and_true, or_self, or_false, false_or, false_and, and_false, true_or, or_true, if_true, if_false, ne_eq, Classical.not_not, not_true_eq_false, not_false_eq_true, true_implies, false_implies, implies_true, Nat.reduceEqDiff, Nat.reduceAdd, Nat.reduceLeDiff, Nat.reduceSub, reduceCtorEq, reduceIte, b6_137]
        exact hq h H
      | false =>
        rw [if_neg (fun w => by have := hf.mpr w; cases this)] at hq
        simp only [lv_args, z_v, z_lg, z_h, z_u, z_u1, z_c, z_ct, z_sk, sbne, lst1_d, ldel, lst2_d, ldel2, z_sw, z_rok, zi, eq_self, List.map_cons, List.map_nil, List.append_nil, List.nil_append, List.cons_append, Int32.reduceLT, Int32.reduceLE, Int32.reduceAdd, Int32.reduceSub, Int32.reduceMul, Int32.reduceToInt, Int32.reduceToNatClampNeg, Int.reduceLT, Int.reduceLE, Int.reduceNeg, true_and, and_true, or_self, or_false, false_or, false_and, and_false, true_or, or_true, if_true, if_false, ne_eq, Classical.not_not, not_true_eq_false, not_false_eq_true, true_implies, false_implies, implies_true, Nat.reduceEqDiff, Nat.reduceAdd, Nat.reduceLeDiff, Nat.reduceSub, reduceCtorEq, reduceIte, b6_116, eb0]
        simp only [lv_args, z_v, z_lg, z_h, z_u, z_u1, z_c, z_ct, z_sk, sbne, lst1_d, ldel, lst2_d, ldel2, z_sw, z_rok, zi, eq_self, List.map_cons, List.map_nil, List.append_nil, List.nil_append, List.cons_append, Int32.reduceLT, Int32.reduceLE, Int32.reduceAdd, Int32.reduceSub, Int32.reduceMul, Int32.reduceToInt, Int32.reduceToNatClampNeg, Int.reduceLT, Int.reduceLE, Int.reduceNeg, true_and, and_true, or_self, or_false, false_or, false_and, and_false, true_or, or_true, if_true, if_false, ne_eq, Classical.not_not, not_true_eq_false, not_false_eq_true, true_implies, false_implies, implies_true, Nat.reduceEqDiff, Nat.reduceAdd, Nat.reduceLeDiff, Nat.reduceSub, reduceCtorEq, reduceIte, b6_121, skX s, srX s, h00, rd_p s r hn, cc.2.2.2.2.2.2 n hn1 hn, Nat.reduceLT]
        refine sp_ftell (n := n) (k := 5) cc H.1 rfl (by decide) (fun h1 H1 => ?_)
        have s1 := H1.1.1.1.1
        simp only [lv_args, z_v, z_lg, z_h, z_u, z_u1, z_c, z_ct, z_sk, sbne, lst1_d, ldel, lst2_d, ldel2, z_sw, z_rok, zi, eq_self, List.map_cons, List.map_nil, List.append_nil, List.nil_append, List.cons_append, Int32.reduceLT, Int32.reduceLE, Int32.reduceAdd, Int32.reduceSub, Int32.reduceMul, Int32.reduceToInt, Int32.reduceToNatClampNeg, Int.reduceLT, Int.reduceLE, Int.reduceNeg, true_and, and_true, or_self, or_false, false_or, false_and, and_false, true_or, or_true, if_true, if_false, ne_eq, Classical.not_not, not_true_eq_false, not_false_eq_true, true_implies, false_implies, implies_true, Nat.reduceEqDiff, Nat.reduceAdd, Nat.reduceLeDiff, Nat.reduceSub, reduceCtorEq, reduceIte, b6_137, skX s, skX s1, Nat.reduceLT]
        exact hq h1 H1
  have loop : ∀ (r' : Nat) (l : List Nat) (i a : Nat) (f : Bool) (T : ALS), (T = [] ∨ ∃ x, T = [(7, .int x)]) → TL g N l a b → (pts N L).drop i = l → i + r' = k → (f = true ↔ 30 ≤ j ∧ j ∉ ((pts N L).take i).map (fun c => nCn N (erN N c))) → aWP d 6 33 ((6, .int (nI i)) :: (5, .int (oI l.head?)) :: (4, .int (bI f)) :: (T ++ [(0, .ref 39), (1, .int (nI L)), (2, .int (nI k)), (3, .int (nI n))])) [] h Q := by
    intro r'
    induction r' with
    | zero =>
      intro l i a f T hT tl' hdr hi hf
      have hi : i = k := hi
      subst hi
      have go := fin (nI i) (oI l.head?) T f hT hf
      rcases hT with rfl | ⟨x, rfl⟩
      · simp only [List.nil_append, List.cons_append] at go ⊢
        simp only [lv_args, z_v, z_lg, z_h, z_u, z_u1, z_c, z_ct, z_sk, sbne, lst1_d, ldel, lst2_d, ldel2, z_sw, z_rok, zi, eq_self, List.map_cons, List.map_nil, List.append_nil, List.nil_append, List.cons_append, Int32.reduceLT, Int32.reduceLE, Int32.reduceAdd, Int32.reduceSub, Int32.reduceMul, Int32.reduceToInt, Int32.reduceToNatClampNeg, Int.reduceLT, Int.reduceLE, Int.reduceNeg, true_and, and_true, or_self, or_false, false_or, false_and, and_false, true_or, or_true, if_true, if_false, ne_eq, Classical.not_not, not_true_eq_false, not_false_eq_true, true_implies, false_implies, implies_true, Nat.reduceEqDiff, Nat.reduceAdd, Nat.reduceLeDiff, Nat.reduceSub, reduceCtorEq, reduceIte, b6_33]
        simp (disch := omega) only [nI_leN]
        exact ⟨fun _ => go, fun c => absurd (Nat.le_refl _) c⟩
      · simp only [List.nil_append, List.cons_append] at go ⊢
        simp only [lv_args, z_v, z_lg, z_h, z_u, z_u1, z_c, z_ct, z_sk, sbne, lst1_d, ldel, lst2_d, ldel2, z_sw, z_rok, zi, eq_self, List.map_cons, List.map_nil, List.append_nil, List.nil_append, List.cons_append, Int32.reduceLT, Int32.reduceLE, Int32.reduceAdd, Int32.reduceSub, Int32.reduceMul, Int32.reduceToInt, Int32.reduceToNatClampNeg, Int.reduceLT, Int.reduceLE, Int.reduceNeg, true_and, and_true, or_self, or_false, false_or, false_and, and_false, true_or, or_true, if_true, if_false, ne_eq, Classical.not_not, not_true_eq_false, not_false_eq_true, true_implies, false_implies, implies_true, Nat.reduceEqDiff, Nat.reduceAdd, Nat.reduceLeDiff, Nat.reduceSub, reduceCtorEq, reduceIte, b6_33]
        simp (disch := omega) only [nI_leN]
        exact ⟨fun _ => go, fun c => absurd (Nat.le_refl _) c⟩
    | succ r' ih =>
      intro l i a f T hT tl' hdr hi hf
      have hil : i < (pts N L).length := by omega
      have hc := List.drop_eq_getElem_cons hil
      rw [hdr] at hc
      generalize hcc : (pts N L)[i] = c at hc
      have hmem : c ∈ pts N L := by rw [← hcc]; exact List.getElem_mem hil
      have htk : (pts N L).take (i + 1) = (pts N L).take i ++ [c] := by rw [List.take_succ_eq_append_getElem hil, hcc]
      subst hc
      obtain ⟨x1, x2, x3, m, x4, x5, x6⟩ := tl_c tl'
      obtain ⟨u1, u2, u3, u4⟩ := he c hmem
      obtain ⟨jc, hjc, ejc, ejc2, hjc3⟩ := nok_name nk u2 u3 u4
      have ho : oI (List.head? (c :: (pts N L).drop (i + 1))) = nI c := rfl
      cases f with
      | false =>
        have nf : ¬ (30 ≤ j ∧ j ∉ ((pts N L).take k).map (fun c => nCn N (erN N c))) := fun w => by
          have : (false = true) := hf.mpr ⟨w.1, fun hm => w.2 (by
            obtain ⟨y, hy, ey⟩ := List.mem_map.mp hm
            exact List.mem_map.mpr ⟨y, (List.take_prefix_take_left (by omega : i ≤ k)).subset hy, ey⟩)⟩
          cases this
        have go := fin (nI i) (nI c) T false hT ⟨fun e => (by cases e), fun w => absurd w nf⟩
        rcases hT with rfl | ⟨x, rfl⟩
        · simp only [List.nil_append, List.cons_append] at go ⊢
          simp only [lv_args, z_v, z_lg, z_h, z_u, z_u1, z_c, z_ct, z_sk, sbne, lst1_d, ldel, lst2_d, ldel2, z_sw, z_rok, zi, eq_self, List.map_cons, List.map_nil, List.append_nil, List.nil_append, List.cons_append, Int32.reduceLT, Int32.reduceLE, Int32.reduceAdd, Int32.reduceSub, Int32.reduceMul, Int32.reduceToInt, Int32.reduceToNatClampNeg, Int.reduceLT, Int.reduceLE, Int.reduceNeg, true_and, and_true, or_self, or_false, false_or, false_and, and_false, true_or, or_true, if_true, if_false, ne_eq, Classical.not_not, not_true_eq_false, not_false_eq_true, true_implies, false_implies, implies_true, Nat.reduceEqDiff, Nat.reduceAdd, Nat.reduceLeDiff, Nat.reduceSub, reduceCtorEq, reduceIte, b6_33, ho]
          simp (disch := omega) only [nI_leN]
          refine ⟨fun c => absurd c (by omega), fun _ => ?_⟩
          simp only [eb0] at go
          simp only [lv_args, z_v, z_lg, z_h, z_u, z_u1, z_c, z_ct, z_sk, sbne, lst1_d, ldel, lst2_d, ldel2, z_sw, z_rok, zi, eq_self, List.map_cons, List.map_nil, List.append_nil, List.nil_append, List.cons_append, Int32.reduceLT, Int32.reduceLE, Int32.reduceAdd, Int32.reduceSub, Int32.reduceMul, Int32.reduceToInt, Int32.reduceToNatClampNeg, Int.reduceLT, Int.reduceLE, Int.reduceNeg, true_and, and_true, or_self, or_false, false_or, false_and, and_false, true_or, or_true, if_true, if_false, ne_eq, Classical.not_not, not_true_eq_false, not_false_eq_true, true_implies, false_implies, implies_true, Nat.reduceEqDiff, Nat.reduceAdd, Nat.reduceLeDiff, Nat.reduceSub, reduceCtorEq, reduceIte, b6_39, eb0]
          exact go
        · simp only [List.nil_append, List.cons_append] at go ⊢
          simp only [lv_args, z_v, z_lg, z_h, z_u, z_u1, z_c, z_ct, z_sk, sbne, lst1_d, ldel, lst2_d, ldel2, z_sw, z_rok, zi, eq_self, List.map_cons, List.map_nil, List.append_nil, List.nil_append, List.cons_append, Int32.reduceLT, Int32.reduceLE, Int32.reduceAdd, Int32.reduceSub, Int32.reduceMul, Int32.reduceToInt, Int32.reduceToNatClampNeg, Int.reduceLT, Int.reduceLE, Int.reduceNeg, true_and, and_true, or_self, or_false, false_or, false_and, and_false, true_or, or_true, if_true, if_false, ne_eq, Classical.not_not, not_true_eq_false, not_false_eq_true, true_implies, false_implies, implies_true, Nat.reduceEqDiff, Nat.reduceAdd, Nat.reduceLeDiff, Nat.reduceSub, reduceCtorEq, reduceIte, b6_33, ho]
          simp (disch := omega) only [nI_leN]
          refine ⟨fun c => absurd c (by omega), fun _ => ?_⟩
          simp only [eb0] at go
          simp only [lv_args, z_v, z_lg, z_h, z_u, z_u1, z_c, z_ct, z_sk, sbne, lst1_d, ldel, lst2_d, ldel2, z_sw, z_rok, zi, eq_self, List.map_cons, List.map_nil, List.append_nil, List.nil_append, List.cons_append, Int32.reduceLT, Int32.reduceLE, Int32.reduceAdd, Int32.reduceSub, Int32.reduceMul, Int32.reduceToInt, Int32.reduceToNatClampNeg, Int.reduceLT, Int.reduceLE, Int.reduceNeg, true_and, and_true, or_self, or_false, false_or, false_and, and_false, true_or, or_true, if_true, if_false, ne_eq, Classical.not_not, not_true_eq_false, not_false_eq_true, true_implies, false_implies, implies_true, Nat.reduceEqDiff, Nat.reduceAdd, Nat.reduceLeDiff, Nat.reduceSub, reduceCtorEq, reduceIte, b6_39, eb0]
          exact go
      | true =>
        have nx : aWP d 6 33 ((6, .int (nI (i + 1))) :: (5, .int (oI ((pts N L).drop (i + 1)).head?)) :: (4, .int (bI (decide (jc ≠ j)))) :: ([(7, .int (nI (erN N c)))] ++ [(0, .ref 39), (1, .int (nI L)), (2, .int (nI k)), (3, .int (nI n))])) [] h Q := by
          refine ih _ (i + 1) m _ _ (Or.inr ⟨_, rfl⟩) x6 rfl (by omega) ?_
          rw [htk, List.map_append, List.mem_append]
          obtain ⟨v1, v2⟩ := hf.mp rfl
          simp only [List.map_cons, List.map_nil, List.mem_cons, List.not_mem_nil, or_false, decide_eq_true_eq, ejc2]
          exact ⟨fun w => ⟨v1, fun c => c.elim v2 (fun e => w e.symm)⟩, fun w e => w.2 (Or.inr e.symm)⟩
        have step : aWP d 6 70 ((6, .int (nI i)) :: (5, .int (nI c)) :: (4, .int 1) :: (T ++ [(0, .ref 39), (1, .int (nI L)), (2, .int (nI k)), (3, .int (nI n))])) [.int (nI (erN N c))] h Q := by
          rcases hT with rfl | ⟨x, rfl⟩
          · simp only [List.nil_append, List.cons_append] at nx ⊢
            simp only [lv_args, z_v, z_lg, z_h, z_u, z_u1, z_c, z_ct, z_sk, sbne, lst1_d, ldel, lst2_d, ldel2, z_sw, z_rok, zi, eq_self, List.map_cons, List.map_nil, List.append_nil, List.nil_append, List.cons_append, Int32.reduceLT, Int32.reduceLE, Int32.reduceAdd, Int32.reduceSub, Int32.reduceMul, Int32.reduceToInt, Int32.reduceToNatClampNeg, Int.reduceLT, Int.reduceLE, Int.reduceNeg, true_and, and_true, or_self, or_false, false_or, false_and, and_false, true_or, or_true, if_true, if_false, ne_eq, Classical.not_not, not_true_eq_false, not_false_eq_true, true_implies, false_implies, implies_true, Nat.reduceEqDiff, Nat.reduceAdd, Nat.reduceLeDiff, Nat.reduceSub, reduceCtorEq, reduceIte, b6_70, skX s, srX s, h00, rd_c s r u3, rd_c s r hn, ejc, ej, Nat.reduceLT]
            simp (disch := omega) only [nI_eqN]
            refine ⟨fun ce => ?_, fun ce => ?_⟩
            · rw [decide_eq_false (fun w => w ce), eb0] at nx
              simp only [lv_args, z_v, z_lg, z_h, z_u, z_u1, z_c, z_ct, z_sk, sbne, lst1_d, ldel, lst2_d, ldel2, z_sw, z_rok, zi, eq_self, List.map_cons, List.map_nil, List.append_nil, List.nil_append, List.cons_append, Int32.reduceLT, Int32.reduceLE, Int32.reduceAdd, Int32.reduceSub, Int32.reduceMul, Int32.reduceToInt, Int32.reduceToNatClampNeg, Int.reduceLT, Int.reduceLE, Int.reduceNeg, true_and, and_true, or_self, or_false, false_or, false_and, and_false, true_or, or_true, if_true, if_false, ne_eq, Classical.not_not, not_true_eq_false, not_false_eq_true, true_implies, false_implies, implies_true, Nat.reduceEqDiff, Nat.reduceAdd, Nat.reduceLeDiff, Nat.reduceSub, reduceCtorEq, reduceIte, b6_96, b6_97, skX s, srX s, h00, rd_x s r x1, x3, nI_1, Nat.reduceLT]
              exact nx
            · rw [decide_eq_true ce, eb1] at nx
              simp only [lv_args, z_v, z_lg, z_h, z_u, z_u1, z_c, z_ct, z_sk, sbne, lst1_d, ldel, lst2_d, ldel2, z_sw, z_rok, zi, eq_self, List.map_cons, List.map_nil, List.append_nil, List.nil_append, List.cons_append, Int32.reduceLT, Int32.reduceLE, Int32.reduceAdd, Int32.reduceSub, Int32.reduceMul, Int32.reduceToInt, Int32.reduceToNatClampNeg, Int.reduceLT, Int.reduceLE, Int.reduceNeg, true_and, and_true, or_self, or_false, false_or, false_and, and_false, true_or, or_true, if_true, if_false, ne_eq, Classical.not_not, not_true_eq_false, not_false_eq_true, true_implies, false_implies, implies_true, Nat.reduceEqDiff, Nat.reduceAdd, Nat.reduceLeDiff, Nat.reduceSub, reduceCtorEq, reduceIte, b6_92, b6_97, skX s, srX s, h00, rd_x s r x1, x3, nI_1, Nat.reduceLT]
              exact nx
          · simp only [List.nil_append, List.cons_append] at nx ⊢
            simp only [lv_args, z_v, z_lg, z_h, z_u, z_u1, z_c, z_ct, z_sk, sbne, lst1_d, ldel, lst2_d, ldel2, z_sw, z_rok, zi, eq_self, List.map_cons, List.map_nil, List.append_nil, List.nil_append, List.cons_append, Int32.reduceLT, Int32.reduceLE, Int32.reduceAdd, Int32.reduceSub, Int32.reduceMul, Int32.reduceToInt, Int32.reduceToNatClampNeg, Int.reduceLT, Int.reduceLE, Int.reduceNeg, true_and, and_true, or_self, or_false, false_or, false_and, and_false, true_or, or_true, if_true, if_false, ne_eq, Classical.not_not, not_true_eq_false, not_false_eq_true, true_implies, false_implies, implies_true, Nat.reduceEqDiff, Nat.reduceAdd, Nat.reduceLeDiff, Nat.reduceSub, reduceCtorEq, reduceIte, b6_70, skX s, srX s, h00, rd_c s r u3, rd_c s r hn, ejc, ej, Nat.reduceLT]
            simp (disch := omega) only [nI_eqN]
            refine ⟨fun ce => ?_, fun ce => ?_⟩
            · rw [decide_eq_false (fun w => w ce), eb0] at nx
              simp only [lv_args, z_v, z_lg, z_h, z_u, z_u1, z_c, z_ct, z_sk, sbne, lst1_d, ldel, lst2_d, ldel2, z_sw, z_rok, zi, eq_self, List.map_cons, List.map_nil, List.append_nil, List.nil_append, List.cons_append, Int32.reduceLT, Int32.reduceLE, Int32.reduceAdd, Int32.reduceSub, Int32.reduceMul, Int32.reduceToInt, Int32.reduceToNatClampNeg, Int.reduceLT, Int.reduceLE, Int.reduceNeg, true_and, and_true, or_self, or_false, false_or, false_and, and_false, true_or, or_true, if_true, if_false, ne_eq, Classical.not_not, not_true_eq_false, not_false_eq_true, true_implies, false_implies, implies_true, Nat.reduceEqDiff, Nat.reduceAdd, Nat.reduceLeDiff, Nat.reduceSub, reduceCtorEq, reduceIte, b6_96, b6_97, skX s, srX s, h00, rd_x s r x1, x3, nI_1, Nat.reduceLT]
              exact nx
            · rw [decide_eq_true ce, eb1] at nx
              simp only [lv_args, z_v, z_lg, z_h, z_u, z_u1, z_c, z_ct, z_sk, sbne, lst1_d, ldel, lst2_d, ldel2, z_sw, z_rok, zi, eq_self, List.map_cons, List.map_nil, List.append_nil, List.nil_append, List.cons_append, Int32.reduceLT, Int32.reduceLE, Int32.reduceAdd, Int32.reduceSub, Int32.reduceMul, Int32.reduceToInt, Int32.reduceToNatClampNeg, Int.reduceLT, Int.reduceLE, Int.reduceNeg, true_and, and_true, or_self, or_false, false_or, false_and, and_false, true_or, or_true, if_true, if_false, ne_eq, Classical.not_not, not_true_eq_false, not_false_eq_true, true_implies, false_implies, implies_true, Nat.reduceEqDiff, Nat.reduceAdd, Nat.reduceLeDiff, Nat.reduceSub, reduceCtorEq, reduceIte, b6_92, b6_97, skX s, srX s, h00, rd_x s r x1, x3, nI_1, Nat.reduceLT]
              exact nx
        rcases hT with rfl | ⟨x, rfl⟩
        · simp only [List.nil_append, List.cons_append] at step ⊢
          simp only [lv_args, z_v, z_lg, z_h, z_u, z_u1, z_c, z_ct, z_sk, sbne, lst1_d, ldel, lst2_d, ldel2, z_sw, z_rok, zi, eq_self, List.map_cons, List.map_nil, List.append_nil, List.nil_append, List.cons_append, Int32.reduceLT, Int32.reduceLE, Int32.reduceAdd, Int32.reduceSub, Int32.reduceMul, Int32.reduceToInt, Int32.reduceToNatClampNeg, Int.reduceLT, Int.reduceLE, Int.reduceNeg, true_and, and_true, or_self, or_false, false_or, false_and, and_false, true_or, or_true, if_true, if_false, ne_eq, Classical.not_not, not_true_eq_false, not_false_eq_true, true_implies, false_implies, implies_true, Nat.reduceEqDiff, Nat.reduceAdd, Nat.reduceLeDiff, Nat.reduceSub, reduceCtorEq, reduceIte, b6_33, ho]
          simp (disch := omega) only [nI_leN]
          refine ⟨fun c => absurd c (by omega), fun _ => ?_⟩
          simp only [lv_args, z_v, z_lg, z_h, z_u, z_u1, z_c, z_ct, z_sk, sbne, lst1_d, ldel, lst2_d, ldel2, z_sw, z_rok, zi, eq_self, List.map_cons, List.map_nil, List.append_nil, List.nil_append, List.cons_append, Int32.reduceLT, Int32.reduceLE, Int32.reduceAdd, Int32.reduceSub, Int32.reduceMul, Int32.reduceToInt, Int32.reduceToNatClampNeg, Int.reduceLT, Int.reduceLE, Int.reduceNeg, true_and, and_true, or_self, or_false, false_or, false_and, and_false, true_or, or_true, if_true, if_false, ne_eq, Classical.not_not, not_true_eq_false, not_false_eq_true, true_implies, false_implies, implies_true, Nat.reduceEqDiff, Nat.reduceAdd, Nat.reduceLeDiff, Nat.reduceSub, reduceCtorEq, reduceIte, b6_39, eb1, z10]
          simp only [lv_args, z_v, z_lg, z_h, z_u, z_u1, z_c, z_ct, z_sk, sbne, lst1_d, ldel, lst2_d, ldel2, z_sw, z_rok, zi, eq_self, List.map_cons, List.map_nil, List.append_nil, List.nil_append, List.cons_append, Int32.reduceLT, Int32.reduceLE, Int32.reduceAdd, Int32.reduceSub, Int32.reduceMul, Int32.reduceToInt, Int32.reduceToNatClampNeg, Int.reduceLT, Int.reduceLE, Int.reduceNeg, true_and, and_true, or_self, or_false, false_or, false_and, and_false, true_or, or_true, if_true, if_false, ne_eq, Classical.not_not, not_true_eq_false, not_false_eq_true, true_implies, false_implies, implies_true, Nat.reduceEqDiff, Nat.reduceAdd, Nat.reduceLeDiff, Nat.reduceSub, reduceCtorEq, reduceIte, b6_44, skX s, srX s, h00, rd_l s r x1, Nat.reduceLT]
          by_cases c6 : nK N c = 6
          · have e6 : bI (nK N c == 6) = 1 := by rw [c6]; rfl
            have ee : erN N c = prt N c 0 := if_pos c6
            rw [ee] at step
            simp only [e6, z10, false_imp_iff, not_false_eq_true, true_imp_iff, true_and]
            simp only [lv_args, z_v, z_lg, z_h, z_u, z_u1, z_c, z_ct, z_sk, sbne, lst1_d, ldel, lst2_d, ldel2, z_sw, z_rok, zi, eq_self, List.map_cons, List.map_nil, List.append_nil, List.nil_append, List.cons_append, Int32.reduceLT, Int32.reduceLE, Int32.reduceAdd, Int32.reduceSub, Int32.reduceMul, Int32.reduceToInt, Int32.reduceToNatClampNeg, Int.reduceLT, Int.reduceLE, Int.reduceNeg, true_and, and_true, or_self, or_false, false_or, false_and, and_false, true_or, or_true, if_true, if_false, ne_eq, Classical.not_not, not_true_eq_false, not_false_eq_true, true_implies, false_implies, implies_true, Nat.reduceEqDiff, Nat.reduceAdd, Nat.reduceLeDiff, Nat.reduceSub, reduceCtorEq, reduceIte, b6_56, skX s, srX s, h00, rd_f s r x1, u1 c6, Nat.reduceLT]
            exact step
          · have e6 : bI (nK N c == 6) = 0 := by
              have : (nK N c == 6) = false := by simpa using c6
              rw [this]; rfl
            have ee : erN N c = c := if_neg c6
            rw [ee] at step
            simp only [e6, not_true_eq_false, false_imp_iff, true_imp_iff, and_true]
            simp only [lv_args, z_v, z_lg, z_h, z_u, z_u1, z_c, z_ct, z_sk, sbne, lst1_d, ldel, lst2_d, ldel2, z_sw, z_rok, zi, eq_self, List.map_cons, List.map_nil, List.append_nil, List.nil_append, List.cons_append, Int32.reduceLT, Int32.reduceLE, Int32.reduceAdd, Int32.reduceSub, Int32.reduceMul, Int32.reduceToInt, Int32.reduceToNatClampNeg, Int.reduceLT, Int.reduceLE, Int.reduceNeg, true_and, and_true, or_self, or_false, false_or, false_and, and_false, true_or, or_true, if_true, if_false, ne_eq, Classical.not_not, not_true_eq_false, not_false_eq_true, true_implies, false_implies, implies_true, Nat.reduceEqDiff, Nat.reduceAdd, Nat.reduceLeDiff, Nat.reduceSub, reduceCtorEq, reduceIte, b6_68]
            exact step
        · simp only [List.nil_append, List.cons_append] at step ⊢
          simp only [lv_args, z_v, z_lg, z_h, z_u, z_u1, z_c, z_ct, z_sk, sbne, lst1_d, ldel, lst2_d, ldel2, z_sw, z_rok, zi, eq_self, List.map_cons, List.map_nil, List.append_nil, List.nil_append, List.cons_append, Int32.reduceLT, Int32.reduceLE, Int32.reduceAdd, Int32.reduceSub, Int32.reduceMul, Int32.reduceToInt, Int32.reduceToNatClampNeg, Int.reduceLT, Int.reduceLE, Int.reduceNeg, true_and, and_true, or_self, or_false, false_or, false_and, and_false, true_or, or_true, if_true, if_false, ne_eq, Classical.not_not, not_true_eq_false, not_false_eq_true, true_implies, false_implies, implies_true, Nat.reduceEqDiff, Nat.reduceAdd, Nat.reduceLeDiff, Nat.reduceSub, reduceCtorEq, reduceIte, b6_33, ho]
          simp (disch := omega) only [nI_leN]
          refine ⟨fun c => absurd c (by omega), fun _ => ?_⟩
          simp only [lv_args, z_v, z_lg, z_h, z_u, z_u1, z_c, z_ct, z_sk, sbne, lst1_d, ldel, lst2_d, ldel2, z_sw, z_rok, zi, eq_self, List.map_cons, List.map_nil, List.append_nil, List.nil_append, List.cons_append, Int32.reduceLT, Int32.reduceLE, Int32.reduceAdd, Int32.reduceSub, Int32.reduceMul, Int32.reduceToInt, Int32.reduceToNatClampNeg, Int.reduceLT, Int.reduceLE, Int.reduceNeg, true_and, and_true, or_self, or_false, false_or, false_and, and_false, true_or, or_true, if_true, if_false, ne_eq, Classical.not_not, not_true_eq_false, not_false_eq_true, true_implies, false_implies, implies_true, Nat.reduceEqDiff, Nat.reduceAdd, Nat.reduceLeDiff, Nat.reduceSub, reduceCtorEq, reduceIte, b6_39, eb1, z10]
          simp only [lv_args, z_v, z_lg, z_h, z_u, z_u1, z_c, z_ct, z_sk, sbne, lst1_d, ldel, lst2_d, ldel2, z_sw, z_rok, zi, eq_self, List.map_cons, List.map_nil, List.append_nil, List.nil_append, List.cons_append, Int32.reduceLT, Int32.reduceLE, Int32.reduceAdd, Int32.reduceSub, Int32.reduceMul, Int32.reduceToInt, Int32.reduceToNatClampNeg, Int.reduceLT, Int.reduceLE, Int.reduceNeg, true_and, and_true, or_self, or_false, false_or, false_and, and_false, true_or, or_true, if_true, if_false, ne_eq, Classical.not_not, not_true_eq_false, not_false_eq_true, true_implies, false_implies, implies_true, Nat.reduceEqDiff, Nat.reduceAdd, Nat.reduceLeDiff, Nat.reduceSub, reduceCtorEq, reduceIte, b6_44, skX s, srX s, h00, rd_l s r x1, Nat.reduceLT]
          by_cases c6 : nK N c = 6
          · have e6 : bI (nK N c == 6) = 1 := by rw [c6]; rfl
            have ee : erN N c = prt N c 0 := if_pos c6
            rw [ee] at step
            simp only [e6, z10, false_imp_iff, not_false_eq_true, true_imp_iff, true_and]
            simp only [lv_args, z_v, z_lg, z_h, z_u, z_u1, z_c, z_ct, z_sk, sbne, lst1_d, ldel, lst2_d, ldel2, z_sw, z_rok, zi, eq_self, List.map_cons, List.map_nil, List.append_nil, List.nil_append, List.cons_append, Int32.reduceLT, Int32.reduceLE, Int32.reduceAdd, Int32.reduceSub, Int32.reduceMul, Int32.reduceToInt, Int32.reduceToNatClampNeg, Int.reduceLT, Int.reduceLE, Int.reduceNeg, true_and, and_true, or_self, or_false, false_or, false_and, and_false, true_or, or_true, if_true, if_false, ne_eq, Classical.not_not, not_true_eq_false, not_false_eq_true, true_implies, false_implies, implies_true, Nat.reduceEqDiff, Nat.reduceAdd, Nat.reduceLeDiff, Nat.reduceSub, reduceCtorEq, reduceIte, b6_56, skX s, srX s, h00, rd_f s r x1, u1 c6, Nat.reduceLT]
            exact step
          · have e6 : bI (nK N c == 6) = 0 := by
              have : (nK N c == 6) = false := by simpa using c6
              rw [this]; rfl
            have ee : erN N c = c := if_neg c6
            rw [ee] at step
            simp only [e6, not_true_eq_false, false_imp_iff, true_imp_iff, and_true]
            simp only [lv_args, z_v, z_lg, z_h, z_u, z_u1, z_c, z_ct, z_sk, sbne, lst1_d, ldel, lst2_d, ldel2, z_sw, z_rok, zi, eq_self, List.map_cons, List.map_nil, List.append_nil, List.nil_append, List.cons_append, Int32.reduceLT, Int32.reduceLE, Int32.reduceAdd, Int32.reduceSub, Int32.reduceMul, Int32.reduceToInt, Int32.reduceToNatClampNeg, Int.reduceLT, Int.reduceLE, Int.reduceNeg, true_and, and_true, or_self, or_false, false_or, false_and, and_false, true_or, or_true, if_true, if_false, ne_eq, Classical.not_not, not_true_eq_false, not_false_eq_true, true_implies, false_implies, implies_true, Nat.reduceEqDiff, Nat.reduceAdd, Nat.reduceLeDiff, Nat.reduceSub, reduceCtorEq, reduceIte, b6_68]
            exact step
  have go := fun f hf => loop k (pts N L) 0 (L + 1) f [] (Or.inl rfl) tl rfl (Nat.zero_add _) hf
  simp only [List.nil_append] at go
  unfold aEv
  simp only [lv_args, z_v, z_lg, z_h, z_u, z_u1, z_c, z_ct, z_sk, sbne, lst1_d, ldel, lst2_d, ldel2, z_sw, z_rok, zi, eq_self, List.map_cons, List.map_nil, List.append_nil, List.nil_append, List.cons_append, Int32.reduceLT, Int32.reduceLE, Int32.reduceAdd, Int32.reduceSub, Int32.reduceMul, Int32.reduceToInt, Int32.reduceToNatClampNeg, Int.reduceLT, Int.reduceLE, Int.reduceNeg, true_and, and_true, or_self, or_false, false_or, false_and, and_false, true_or, or_true, if_true, if_false, ne_eq, Classical.not_not, not_true_eq_false, not_false_eq_true, true_implies, false_implies, implies_true, Nat.reduceEqDiff, Nat.reduceAdd, Nat.reduceLeDiff, Nat.reduceSub, reduceCtorEq, reduceIte, b6_0, skX s, srX s, h00, rd_c s r hn, ej, z30, Nat.reduceLT]
  simp (disch := omega) only [nI_ltN]
  refine ⟨fun c => ?_, fun c => ?_⟩
  · have g1 := go false ⟨fun e => (by cases e), fun w => absurd w.1 (by omega)⟩
    simp only [lv_args, z_v, z_lg, z_h, z_u, z_u1, z_c, z_ct, z_sk, sbne, lst1_d, ldel, lst2_d, ldel2, z_sw, z_rok, zi, eq_self, List.map_cons, List.map_nil, List.append_nil, List.nil_append, List.cons_append, Int32.reduceLT, Int32.reduceLE, Int32.reduceAdd, Int32.reduceSub, Int32.reduceMul, Int32.reduceToInt, Int32.reduceToNatClampNeg, Int.reduceLT, Int.reduceLE, Int.reduceNeg, true_and, and_true, or_self, or_false, false_or, false_and, and_false, true_or, or_true, if_true, if_false, ne_eq, Classical.not_not, not_true_eq_false, not_false_eq_true, true_implies, false_implies, implies_true, Nat.reduceEqDiff, Nat.reduceAdd, Nat.reduceLeDiff, Nat.reduceSub, reduceCtorEq, reduceIte, b6_17, b6_18, skX s, srX s, h00, rd_f s r hL, hF, Nat.reduceLT]
    exact g1
  · have g1 := go true ⟨fun _ => ⟨by omega, by simp⟩, fun _ => rfl⟩
    simp only [lv_args, z_v, z_lg, z_h, z_u, z_u1, z_c, z_ct, z_sk, sbne, lst1_d, ldel, lst2_d, ldel2, z_sw, z_rok, zi, eq_self, List.map_cons, List.map_nil, List.append_nil, List.nil_append, List.cons_append, Int32.reduceLT, Int32.reduceLE, Int32.reduceAdd, Int32.reduceSub, Int32.reduceMul, Int32.reduceToInt, Int32.reduceToNatClampNeg, Int.reduceLT, Int.reduceLE, Int.reduceNeg, true_and, and_true, or_self, or_false, false_or, false_and, and_false, true_or, or_true, if_true, if_false, ne_eq, Classical.not_not, not_true_eq_false, not_false_eq_true, true_implies, false_implies, implies_true, Nat.reduceEqDiff, Nat.reduceAdd, Nat.reduceLeDiff, Nat.reduceSub, reduceCtorEq, reduceIte, b6_13, b6_18, skX s, srX s, h00, rd_f s r hL, hF, Nat.reduceLT]
    exact g1
end CBN
