/-! BUILD. compile -/
section CCP
variable {h h' h0 : Hp} {Q : Option Value → Hp → Prop} {d p c1 c2 n g b : Nat} {N : NS} {mt op : List Nat} {K : List KY} {z : CR}
/-- nothing but the table of what is defined, and how many are -/
def FrD (p : Nat) (h h' : Hp) : Prop := hR h' = hR h ∧ hL h' = hL h ∧ (∀ a i, ¬ (a = p ∧ i = 15) → hI h' a i = hI h a i) ∧ ∀ a, a < 130 → a ≠ 46 → hA h' a = hA h a ∧ hB h' a = hB h a ∧ hN h' a = hN h a
theorem frd_tr {h1 h2 : Hp} (a : FrD p h h1) (b : FrD p h1 h2) : FrD p h h2 := ⟨b.1.trans a.1, b.2.1.trans a.2.1, fun x i c => (b.2.2.1 x i c).trans (a.2.2.1 x i c), fun x h1 h2 => ⟨(b.2.2.2 x h1 h2).1.trans (a.2.2.2 x h1 h2).1, (b.2.2.2 x h1 h2).2.1.trans (a.2.2.2 x h1 h2).2.1, (b.2.2.2 x h1 h2).2.2.trans (a.2.2.2 x h1 h2).2.2⟩⟩
theorem rd_frd (f : FrD p h h') (hp : p = 19 ∨ p = 29) (r : RD N h) : RD N h' := by
  obtain ⟨f1, f2, f3, f4⟩ := f
  unfold RD RNs at r ⊢
  rw [f3 3 7 (by omega), (f4 10 (by decide) (by decide)).1, (f4 11 (by decide) (by decide)).1, (f4 12 (by decide) (by decide)).1, (f4 13 (by decide) (by decide)).1, (f4 14 (by decide) (by decide)).1, (f4 10 (by decide) (by decide)).2.2, (f4 11 (by decide) (by decide)).2.2, (f4 12 (by decide) (by decide)).2.2, (f4 13 (by decide) (by decide)).2.2, (f4 14 (by decide) (by decide)).2.2]
  exact r
/-- the table of what is defined -/
def DA1 (K : List KY) (l : List Nat) (p : Nat) (h : Hp) : Prop := K.length ≤ hN h 46 ∧ (∀ j, j < K.length → hA h 46 j = (if j ∈ l then nI (l.idxOf j) else -1)) ∧ hI h p 15 = nI l.length
theorem idx_app {l : List Nat} {j x : Nat} (h : j ∈ l) : (l ++ [x]).idxOf j = l.idxOf j := by rw [List.idxOf_append, if_pos h]
theorem sp_gather {g : Nat} (c : CB h) (hp : p = 19 ∨ p = 29) (R : hR h 39 3 = some p) (r : RD N h) (nk : Nok N mt) (hmK : ∀ t, t ∈ mt → t < K.length) (e45 : hI h 4 5 = nI K.length) (hKl : K.length ≤ 1532) (ht : Tr (g + 1) N 0 N.1) (h6 : nK N 0 = 6) (hlf : ∀ i, 1 ≤ i → i < N.1 → nK N i ≠ 6 → nF N i = -1) (e15 : hI h p 15 = 0) (hd : 10 < d) (hq : ∀ h', CB h' → FrD p h h' → DA1 K (gdf N) p h' → Q none h') : aEv d 13 [.ref 39] h Q := by
  have h00 : 0 < d := by omega
  have hNm := nk.2.2
  obtain ⟨t1, t2, hn0⟩ := tl_n ht h6 (Nat.le_refl _) hNm
  have hlen := tl_len t2
  have z0 : (0 : Int32) = nI 0 := rfl
  have z30 : (30 : Int32) = nI 30 := rfl
  have z10 : ¬ (1 : Int32) = 0 := by decide
  have e9 : (9 : Int32) = wJ 10 := by decide
  have eb0 : bI false = 0 := rfl
  have eb1 : bI true = 1 := rfl
  have y46 : cpR 46 = 3100 := rfl
  have loop : ∀ (l : List Nat) (i a : Nat) (df : List Nat) (h1 : Hp) (T : ALS), (T = [] ∨ ∃ x, T = [(3, .int x)]) → TL g N l a N.1 → i + l.length = (pts N 0).length → df.length ≤ i → CB h1 → FrD p h h1 → DA1 K df p h1 → (∀ h', CB h' → FrD p h h' → DA1 K (l.foldl (gdF N) df) p h' → Q none h') → aWP d 13 40 ((2, .int (nI i)) :: (1, .int (oI l.head?)) :: (T ++ [(0, .ref 39)])) [] h1 Q := by
    intro l
    induction l with
    | nil =>
      intro i a df h1 T hT tl hi hdf c1 F1 D1 q
      have s1 := c1.1
      have r1 := rd_frd F1 hp r
      have hi : i = (pts N 0).length := hi
      have fin := q h1 c1 F1 D1
      have m0 : aEv (d - 1) 128 [.ref 3, .int 0] h1 = fun Q => aEv (d - 1) 128 [.ref 3, .int (nI 0)] h1 Q := rfl
      rcases hT with rfl | ⟨x, rfl⟩
      · simp only [List.nil_append, List.cons_append]
        simp only [lv_args, z_v, z_lg, z_h, z_u, z_u1, z_c, z_ct, z_sk, sbne, lst1_d, ldel, lst2_d, ldel2, z_sw, z_rok, zi, eq_self, List.map_cons, List.map_nil, List.append_nil, List.nil_append, List.cons_append, Int32.reduceLT, Int32.reduceLE, Int32.reduceAdd, Int32.reduceSub, Int32.reduceMul, Int32.reduceToInt, Int32.reduceToNatClampNeg, Int.reduceLT, Int.reduceLE, Int.reduceNeg, true_and, and_true, or_self, or_false, false_or, false_and, and_false, true_or, or_true, if_true, if_false, ne_eq, Classical.not_not, not_true_eq_false, not_false_eq_true, true_implies, false_implies, implies_true, Nat.reduceEqDiff, Nat.reduceAdd, Nat.reduceLeDiff, Nat.reduceSub, reduceCtorEq, reduceIte, b13_40, skX s1, srX s1, h00, z0, rd_m s1 r1 hn0 ht (by omega) (by omega : 0 < d - 1), Nat.reduceLT]
        simp (disch := omega) only [nI_leN]
        refine ⟨fun _ => ?_, fun c => absurd (by omega) c⟩
        simp only [lv_args, z_v, z_lg, z_h, z_u, z_u1, z_c, z_ct, z_sk, sbne, lst1_d, ldel, lst2_d, ldel2, z_sw, z_rok, zi, eq_self, List.map_cons, List.map_nil, List.append_nil, List.nil_append, List.cons_append, Int32.reduceLT, Int32.reduceLE, Int32.reduceAdd, Int32.reduceSub, Int32.reduceMul, Int32.reduceToInt, Int32.reduceToNatClampNeg, Int.reduceLT, Int.reduceLE, Int.reduceNeg, true_and, and_true, or_self, or_false, false_or, false_and, and_false, true_or, or_true, if_true, if_false, ne_eq, Classical.not_not, not_true_eq_false, not_false_eq_true, true_implies, false_implies, implies_true, Nat.reduceEqDiff, Nat.reduceAdd, Nat.reduceLeDiff, Nat.reduceSub, reduceCtorEq, reduceIte, b13_158]
        exact fin
      · simp only [List.nil_append, List.cons_append]
        simp only [lv_args, z_v, z_lg, z_h, z_u, z_u1, z_c, z_ct, z_sk, sbne, lst1_d, ldel, lst2_d, ldel2, z_sw, z_rok, zi, eq_self, List.map_cons, List.map_nil, List.append_nil, List.nil_append, List.cons_append, Int32.reduceLT, Int32.reduceLE, Int32.reduceAdd, Int32.reduceSub, Int32.reduceMul, Int32.reduceToInt, Int32.reduceToNatClampNeg, Int.reduceLT, Int.reduceLE, Int.reduceNeg, true_and, and_true, or_self, or_false, false_or, false_and, and_false, true_or, or_true, if_true, if_false, ne_eq, Classical.not_not, not_true_eq_false, not_false_eq_true, true_implies, false_implies, implies_true, Nat.reduceEqDiff, Nat.reduceAdd, Nat.reduceLeDiff, Nat.reduceSub, reduceCtorEq, reduceIte, b13_40, skX s1, srX s1, h00, z0, rd_m s1 r1 hn0 ht (by omega) (by omega : 0 < d - 1), Nat.reduceLT]
        simp (disch := omega) only [nI_leN]
        refine ⟨fun _ => ?_, fun c => absurd (by omega) c⟩
        simp only [lv_args, z_v, z_lg, z_h, z_u, z_u1, z_c, z_ct, z_sk, sbne, lst1_d, ldel, lst2_d, ldel2, z_sw, z_rok, zi, eq_self, List.map_cons, List.map_nil, List.append_nil, List.nil_append, List.cons_append, Int32.reduceLT, Int32.reduceLE, Int32.reduceAdd, Int32.reduceSub, Int32.reduceMul, Int32.reduceToInt, Int32.reduceToNatClampNeg, Int.reduceLT, Int.reduceLE, Int.reduceNeg, true_and, and_true, or_self, or_false, false_or, false_and, and_false, true_or, or_true, if_true, if_false, ne_eq, Classical.not_not, not_true_eq_false, not_false_eq_true, true_implies, false_implies, implies_true, Nat.reduceEqDiff, Nat.reduceAdd, Nat.reduceLeDiff, Nat.reduceSub, reduceCtorEq, reduceIte, b13_158]
        exact fin
    | cons c l ih =>
      intro i a df h1 T hT tl hi hdf c1 F1 D1 q
      simp only [List.length_cons] at hi
      obtain ⟨x1, x2, x3, m, x4, x5, x6⟩ := tl_c tl
      have s1 := c1.1
      have r1 := rd_frd F1 hp r
      have ho : oI (List.head? (c :: l)) = nI c := rfl
      obtain ⟨gg, eg, tc⟩ : ∃ gg, g = gg + 1 ∧ Tr (gg + 1) N c m := by
        cases g with
        | zero => exact x4.elim
        | succ gg => exact ⟨gg, rfl, x4⟩
      have hw := wrd_le (N := N) (n := c)
      -- to the next one
      have nxt : ∀ (df' : List Nat) (h2 : Hp) (T' : ALS), (T' = [] ∨ ∃ x, T' = [(3, .int x)]) → gdF N df c = df' → df'.length ≤ i + 1 → CB h2 → FrD p h h2 → DA1 K df' p h2 → aWP d 13 143 ((2, .int (nI i)) :: (1, .int (nI c)) :: (T' ++ [(0, .ref 39)])) [] h2 Q  ∧ ∀ x, T' = [(3, .int x)] → aWP d 13 143 [(3, .int x), (2, .int (nI i)), (1, .int (nI c)), (0, .ref 39)] [] h2 Q := by
        intro df' h2 T' hT' edf hl2 c2 F2 D2
        have s2 := c2.1
        have r2 := rd_frd F2 hp r
        have go := ih (i + 1) m df' h2 T' hT' x6 (by omega) hl2 c2 F2 D2 (fun h' a1 a2 a3 => q h' a1 a2 (by rw [List.foldl_cons, edf]; exact a3))
        refine ⟨?_, fun x hx => ?_⟩
        · rcases hT' with rfl | ⟨x, rfl⟩
          · simp only [List.nil_append, List.cons_append] at go ⊢
            simp only [lv_args, z_v, z_lg, z_h, z_u, z_u1, z_c, z_ct, z_sk, sbne, lst1_d, ldel, lst2_d, ldel2, z_sw, z_rok, zi, eq_self, List.map_cons, List.map_nil, List.append_nil, List.nil_append, List.cons_append, Int32.reduceLT, Int32.reduceLE, Int32.reduceAdd, Int32.reduceSub, Int32.reduceMul, Int32.reduceToInt, Int32.reduceToNatClampNeg, Int.reduceLT, Int.reduceLE, Int.reduceNeg, true_and, and_true, or_self, or_false, false_or, false_and, and_false, true_or, or_true, if_true, if_false, ne_eq, Classical.not_not, not_true_eq_false, not_false_eq_true, true_implies, false_implies, implies_true, Nat.reduceEqDiff, Nat.reduceAdd, Nat.reduceLeDiff, Nat.reduceSub, reduceCtorEq, reduceIte, b13_143, skX s2, srX s2, h00, rd_x s2 r2 x1, x3, nI_1, Nat.reduceLT]
            exact go
          · simp only [List.nil_append, List.cons_append] at go ⊢
            simp only [lv_args, z_v, z_lg, z_h, z_u, z_u1, z_c, z_ct, z_sk, sbne, lst1_d, ldel, lst2_d, ldel2, z_sw, z_rok, zi, eq_self, List.map_cons, List.map_nil, List.append_nil, List.nil_append, List.cons_append, Int32.reduceLT, Int32.reduceLE, Int32.reduceAdd, Int32.reduceSub, Int32.reduceMul, Int32.reduceToInt, Int32.reduceToNatClampNeg, Int.reduceLT, Int.reduceLE, Int.reduceNeg, true_and, and_true, or_self, or_false, false_or, false_and, and_false, true_or, or_true, if_true, if_false, ne_eq, Classical.not_not, not_true_eq_false, not_false_eq_true, true_implies, false_implies, implies_true, Nat.reduceEqDiff, Nat.reduceAdd, Nat.reduceLeDiff, Nat.reduceSub, reduceCtorEq, reduceIte, b13_143, skX s2, srX s2, h00, rd_x s2 r2 x1, x3, nI_1, Nat.reduceLT]
            exact go
        · subst hx
          simp only [List.nil_append, List.cons_append] at go
          simp only [lv_args, z_v, z_lg, z_h, z_u, z_u1, z_c, z_ct, z_sk, sbne, lst1_d, ldel, lst2_d, ldel2, z_sw, z_rok, zi, eq_self, List.map_cons, List.map_nil, List.append_nil, List.nil_append, List.cons_append, Int32.reduceLT, Int32.reduceLE, Int32.reduceAdd, Int32.reduceSub, Int32.reduceMul, Int32.reduceToInt, Int32.reduceToNatClampNeg, Int.reduceLT, Int.reduceLE, Int.reduceNeg, true_and, and_true, or_self, or_false, false_or, false_and, and_false, true_or, or_true, if_true, if_false, ne_eq, Classical.not_not, not_true_eq_false, not_false_eq_true, true_implies, false_implies, implies_true, Nat.reduceEqDiff, Nat.reduceAdd, Nat.reduceLeDiff, Nat.reduceSub, reduceCtorEq, reduceIte, b13_143, skX s2, srX s2, h00, rd_x s2 r2 x1, x3, nI_1, Nat.reduceLT]
          exact go
      have skip : ¬ (wrd N c = 10 ∧ shp N c 10 true = true ∧ 30 ≤ nCn N (prt N c 1) ∧ nCn N (prt N c 1) ∉ df) → gdF N df c = df := fun w => if_neg w
      -- a form that defines
      have dfn : wrd N c = 10 → shp N c 10 true = true → ∀ T', (T' = [] ∨ ∃ x, T' = [(3, .int x)]) → aWP d 13 76 ((2, .int (nI i)) :: (1, .int (nI c)) :: (T' ++ [(0, .ref 39)])) [] h1 Q := by
        intro hw10 hs T' hT'
        obtain ⟨_, hl3, h5⟩ := shp_10 hs
        have c6 : nK N c = 6 := Classical.byContradiction fun w => by rw [pts_no w] at hl3; simp at hl3
        obtain ⟨u1, u2, _⟩ := tl_n tc c6 x5 hNm
        have k1 := prt_get (N := N) (n := c) (k := 1) (by omega)
        obtain ⟨v1, v2, _⟩ := tl_get u2 k1
        obtain ⟨j, hj, ej, ej2, hj3⟩ := nok_name nk v2 v1 h5
        have hjK := hmK j hj
        obtain ⟨D2, D3, D4⟩ := id D1
        have e46 := D3 j hjK
        have c46 : (j < hN h1 46) = True := eq_true (by omega)
        have b46 := (c1.2.2.2.2 46 (by decide)).2
        have out : ¬ (30 ≤ j ∧ j ∉ df) → aWP d 13 143 [(3, .int (nI j)), (2, .int (nI i)), (1, .int (nI c)), (0, .ref 39)] [] h1 Q := fun w => (nxt df h1 [(3, .int (nI j))] (Or.inr ⟨_, rfl⟩) (skip (fun w2 => w (by rw [ej2] at w2; exact w2.2.2))) (by omega) c1 F1 D1).2 _ rfl
        have R1 : hR h1 39 3 = some p := by rw [F1.1]; exact R
        have kp : hK h1 p = 7 := by rcases hp with rfl | rfl <;> exact s1.1 _ (by decide)
        have add : 30 ≤ j → j ∉ df → aWP d 13 143 [(3, .int (nI j)), (2, .int (nI i)), (1, .int (nI c)), (0, .ref 39)] [] (pI (pA h1 46 (upd (hA h1 46) j (nI df.length))) p 15 (nI (df.length + 1))) Q := fun w1 w2 => by
          refine (nxt (df ++ [j]) _ [(3, .int (nI j))] (Or.inr ⟨_, rfl⟩) ?_ ?_ (cb_i (cb_a c1)) ?_ ?_).2 _ rfl
          · show (if _ then _ else _) = _
            rw [ej2, if_pos ⟨hw10, hs, w1, w2⟩]
          · rw [List.length_append, List.length_singleton]; omega
          · refine frd_tr F1 ⟨rfl, rfl, fun a i cc => up2_ne cc, fun a _ ha => ⟨up1_ne ha, rfl, rfl⟩⟩
          · refine ⟨D2, fun j' hj' => ?_, ?_⟩
            · show upd (hA h1 46) j (nI df.length) j' = _
              unfold upd
              by_cases cj : j' = j
              · subst cj
                rw [if_pos rfl, if_pos (by simp), idx_at (l := df ++ [j']) (i := df.length) (by simp) (fun i' hi' => by
                  rw [List.getElem?_append_left hi']
                  exact fun e => w2 (List.mem_of_getElem? e))]
              · rw [if_neg cj, D3 j' hj']
                by_cases cm : j' ∈ df
                · rw [if_pos cm, if_pos (List.mem_append_left _ cm), idx_app cm]
                · rw [if_neg cm, if_neg (fun w => by
                    rcases List.mem_append.mp w with w | w
                    · exact cm w
                    · simp only [List.mem_cons, List.not_mem_nil, or_false] at w
                      exact cj w)]
            · rw [List.length_append, List.length_singleton]
              exact up2_eq
        rcases hT' with rfl | ⟨x, rfl⟩
        · simp only [List.nil_append, List.cons_append]
          simp only [lv_args, z_v, z_lg, z_h, z_u, z_u1, z_c, z_ct, z_sk, sbne, lst1_d, ldel, lst2_d, ldel2, z_sw, z_rok, zi, eq_self, List.map_cons, List.map_nil, List.append_nil, List.nil_append, List.cons_append, Int32.reduceLT, Int32.reduceLE, Int32.reduceAdd, Int32.reduceSub, Int32.reduceMul, Int32.reduceToInt, Int32.reduceToNatClampNeg, Int.reduceLT, Int.reduceLE, Int.reduceNeg, true_and, and_true, or_self, or_false, false_or, false_and, and_false, true_or, or_true, if_true, if_false, ne_eq, Classical.not_not, not_true_eq_false, not_false_eq_true, true_implies, false_implies, implies_true, Nat.reduceEqDiff, Nat.reduceAdd, Nat.reduceLeDiff, Nat.reduceSub, reduceCtorEq, reduceIte, b13_76, skX s1, srX s1, h00, rd_2 s1 r1 tc c6 x5 hNm (by omega : 0 < d - 1), oI_g k1, rd_c s1 r1 v1, ej, z30, Nat.reduceLT]
          simp (disch := omega) only [nI_ltN]
          refine ⟨fun cc => out (fun w => by omega), fun cc => ?_⟩
          simp only [lv_args, z_v, z_lg, z_h, z_u, z_u1, z_c, z_ct, z_sk, sbne, lst1_d, ldel, lst2_d, ldel2, z_sw, z_rok, zi, eq_self, List.map_cons, List.map_nil, List.append_nil, List.nil_append, List.cons_append, Int32.reduceLT, Int32.reduceLE, Int32.reduceAdd, Int32.reduceSub, Int32.reduceMul, Int32.reduceToInt, Int32.reduceToNatClampNeg, Int.reduceLT, Int.reduceLE, Int.reduceNeg, true_and, and_true, or_self, or_false, false_or, false_and, and_false, true_or, or_true, if_true, if_false, ne_eq, Classical.not_not, not_true_eq_false, not_false_eq_true, true_implies, false_implies, implies_true, Nat.reduceEqDiff, Nat.reduceAdd, Nat.reduceLeDiff, Nat.reduceSub, reduceCtorEq, reduceIte, b13_98, skX s1, srX s1]
          simp (disch := omega) only [nI_leN]
          refine ⟨fun cc => absurd cc (by omega), fun _ => ?_⟩
          simp only [lv_args, z_v, z_lg, z_h, z_u, z_u1, z_c, z_ct, z_sk, sbne, lst1_d, ldel, lst2_d, ldel2, z_sw, z_rok, zi, eq_self, List.map_cons, List.map_nil, List.append_nil, List.nil_append, List.cons_append, Int32.reduceLT, Int32.reduceLE, Int32.reduceAdd, Int32.reduceSub, Int32.reduceMul, Int32.reduceToInt, Int32.reduceToNatClampNeg, Int.reduceLT, Int.reduceLE, Int.reduceNeg, true_and, and_true, or_self, or_false, false_or, false_and, and_false, true_or, or_true, if_true, if_false, ne_eq, Classical.not_not, not_true_eq_false, not_false_eq_true, true_implies, false_implies, implies_true, Nat.reduceEqDiff, Nat.reduceAdd, Nat.reduceLeDiff, Nat.reduceSub, reduceCtorEq, reduceIte, b13_107, skX s1, srX s1]
          simp (disch := omega) only [nI_ti, nI_cl, le0N, ltNN, c46, e46, true_and]
          by_cases cm : j ∈ df
          · have ne : ¬ nI (df.idxOf j) = -1 := nI_m1' (by have := List.idxOf_lt_length_iff.mpr cm; omega)
            simp only [cm, if_true, ne, not_false_eq_true, true_imp_iff, false_imp_iff, and_true]
            exact out (fun w => w.2 cm)
          · have o1 := add (by omega) cm
            simp only [cm, if_false, not_true_eq_false, true_imp_iff, false_imp_iff, true_and]
            simp only [lv_args, z_v, z_lg, z_h, z_u, z_u1, z_c, z_ct, z_sk, sbne, lst1_d, ldel, lst2_d, ldel2, z_sw, z_rok, zi, eq_self, List.map_cons, List.map_nil, List.append_nil, List.nil_append, List.cons_append, Int32.reduceLT, Int32.reduceLE, Int32.reduceAdd, Int32.reduceSub, Int32.reduceMul, Int32.reduceToInt, Int32.reduceToNatClampNeg, Int.reduceLT, Int.reduceLE, Int.reduceNeg, true_and, and_true, or_self, or_false, false_or, false_and, and_false, true_or, or_true, if_true, if_false, ne_eq, Classical.not_not, not_true_eq_false, not_false_eq_true, true_implies, false_implies, implies_true, Nat.reduceEqDiff, Nat.reduceAdd, Nat.reduceLeDiff, Nat.reduceSub, reduceCtorEq, reduceIte, b13_117, skX s1, srX s1, R1, kp, D4]
            simp (disch := omega) only [nI_ti, nI_cl, le0N, ltNN, c46, true_and]
            try simp only [lv_args, z_v, z_lg, z_h, z_u, z_u1, z_c, z_ct, z_sk, sbne, lst1_d, ldel, lst2_d, ldel2, z_sw, z_rok, zi, eq_self, List.map_cons, List.map_nil, List.append_nil, List.nil_append, List.cons_append, Int32.reduceLT, Int32.reduceLE, Int32.reduceAdd, Int32.reduceSub, Int32.reduceMul, Int32.reduceToInt, Int32.reduceToNatClampNeg, Int.reduceLT, Int.reduceLE, Int.reduceNeg, true_and, and_true, or_self, or_false, false_or, false_and, and_false, true_or, or_true, if_true, if_false, ne_eq, Classical.not_not, not_true_eq_false, not_false_eq_true, true_implies, false_implies, implies_true, Nat.reduceEqDiff, Nat.reduceAdd, Nat.reduceLeDiff, Nat.reduceSub, reduceCtorEq, reduceIte, b13_117, skX s1, srX s1, R1, kp, D4, nI_s]
            exact o1
        · simp only [List.nil_append, List.cons_append]
          simp only [lv_args, z_v, z_lg, z_h, z_u, z_u1, z_c, z_ct, z_sk, sbne, lst1_d, ldel, lst2_d, ldel2, z_sw, z_rok, zi, eq_self, List.map_cons, List.map_nil, List.append_nil, List.nil_append, List.cons_append, Int32.reduceLT, Int32.reduceLE, Int32.reduceAdd, Int32.reduceSub, Int32.reduceMul, Int32.reduceToInt, Int32.reduceToNatClampNeg, Int.reduceLT, Int.reduceLE, Int.reduceNeg, true_and, and_true, or_self, or_false, false_or, false_and, and_false, true_or, or_true, if_true, if_false, ne_eq, Classical.not_not, not_true_eq_false, not_false_eq_true, true_implies, false_implies, implies_true, Nat.reduceEqDiff, Nat.reduceAdd, Nat.reduceLeDiff, Nat.reduceSub, reduceCtorEq, reduceIte, b13_76, skX s1, srX s1, h00, rd_2 s1 r1 tc c6 x5 hNm (by omega : 0 < d - 1), oI_g k1, rd_c s1 r1 v1, ej, z30, Nat.reduceLT]
          simp (disch := omega) only [nI_ltN]
          refine ⟨fun cc => out (fun w => by omega), fun cc => ?_⟩
          simp only [lv_args, z_v, z_lg, z_h, z_u, z_u1, z_c, z_ct, z_sk, sbne, lst1_d, ldel, lst2_d, ldel2, z_sw, z_rok, zi, eq_self, List.map_cons, List.map_nil, List.append_nil, List.nil_append, List.cons_append, Int32.reduceLT, Int32.reduceLE, Int32.reduceAdd, Int32.reduceSub, Int32.reduceMul, Int32.reduceToInt, Int32.reduceToNatClampNeg, Int.reduceLT, Int.reduceLE, Int.reduceNeg, true_and, and_true, or_self, or_false, false_or, false_and, and_false, true_or, or_true, if_true, if_false, ne_eq, Classical.not_not, not_true_eq_false, not_false_eq_true, true_implies, false_implies, implies_true, Nat.reduceEqDiff, Nat.reduceAdd, Nat.reduceLeDiff, Nat.reduceSub, reduceCtorEq, reduceIte, b13_98, skX s1, srX s1]
          simp (disch := omega) only [nI_leN]
          refine ⟨fun cc => absurd cc (by omega), fun _ => ?_⟩
          simp only [lv_args, z_v, z_lg, z_h, z_u, z_u1, z_c, z_ct, z_sk, sbne, lst1_d, ldel, lst2_d, ldel2, z_sw, z_rok, zi, eq_self, List.map_cons, List.map_nil, List.append_nil, List.nil_append, List.cons_append, Int32.reduceLT, Int32.reduceLE, Int32.reduceAdd, Int32.reduceSub, Int32.reduceMul, Int32.reduceToInt, Int32.reduceToNatClampNeg, Int.reduceLT, Int.reduceLE, Int.reduceNeg, true_and, and_true, or_self, or_false, false_or, false_and, and_false, true_or, or_true, if_true, if_false, ne_eq, Classical.not_not, not_true_eq_false, not_false_eq_true, true_implies, false_implies, implies_true, Nat.reduceEqDiff, Nat.reduceAdd, Nat.reduceLeDiff, Nat.reduceSub, reduceCtorEq, reduceIte, b13_107, skX s1, srX s1]
          simp (disch := omega) only [nI_ti, nI_cl, le0N, ltNN, c46, e46, true_and]
          by_cases cm : j ∈ df
          · have ne : ¬ nI (df.idxOf j) = -1 := nI_m1' (by have := List.idxOf_lt_length_iff.mpr cm; omega)
            simp only [cm, if_true, ne, not_false_eq_true, true_imp_iff, false_imp_iff, and_true]
            exact out (fun w => w.2 cm)
          · have o1 := add (by omega) cm
            simp only [cm, if_false, not_true_eq_false, true_imp_iff, false_imp_iff, true_and]
            simp only [lv_args, z_v, z_lg, z_h, z_u, z_u1, z_c, z_ct, z_sk, sbne, lst1_d, ldel, lst2_d, ldel2, z_sw, z_rok, zi, eq_self, List.map_cons, List.map_nil, List.append_nil, List.nil_append, List.cons_append, Int32.reduceLT, Int32.reduceLE, Int32.reduceAdd, Int32.reduceSub, Int32.reduceMul, Int32.reduceToInt, Int32.reduceToNatClampNeg, Int.reduceLT, Int.reduceLE, Int.reduceNeg, true_and, and_true, or_self, or_false, false_or, false_and, and_false, true_or, or_true, if_true, if_false, ne_eq, Classical.not_not, not_true_eq_false, not_false_eq_true, true_implies, false_implies, implies_true, Nat.reduceEqDiff, Nat.reduceAdd, Nat.reduceLeDiff, Nat.reduceSub, reduceCtorEq, reduceIte, b13_117, skX s1, srX s1, R1, kp, D4]
            simp (disch := omega) only [nI_ti, nI_cl, le0N, ltNN, c46, true_and]
            try simp only [lv_args, z_v, z_lg, z_h, z_u, z_u1, z_c, z_ct, z_sk, sbne, lst1_d, ldel, lst2_d, ldel2, z_sw, z_rok, zi, eq_self, List.map_cons, List.map_nil, List.append_nil, List.nil_append, List.cons_append, Int32.reduceLT, Int32.reduceLE, Int32.reduceAdd, Int32.reduceSub, Int32.reduceMul, Int32.reduceToInt, Int32.reduceToNatClampNeg, Int.reduceLT, Int.reduceLE, Int.reduceNeg, true_and, and_true, or_self, or_false, false_or, false_and, and_false, true_or, or_true, if_true, if_false, ne_eq, Classical.not_not, not_true_eq_false, not_false_eq_true, true_implies, false_implies, implies_true, Nat.reduceEqDiff, Nat.reduceAdd, Nat.reduceLeDiff, Nat.reduceSub, reduceCtorEq, reduceIte, b13_117, skX s1, srX s1, R1, kp, D4, nI_s]
            exact o1
      rcases hT with rfl | ⟨x, rfl⟩
      · simp only [List.nil_append, List.cons_append]
        simp only [lv_args, z_v, z_lg, z_h, z_u, z_u1, z_c, z_ct, z_sk, sbne, lst1_d, ldel, lst2_d, ldel2, z_sw, z_rok, zi, eq_self, List.map_cons, List.map_nil, List.append_nil, List.nil_append, List.cons_append, Int32.reduceLT, Int32.reduceLE, Int32.reduceAdd, Int32.reduceSub, Int32.reduceMul, Int32.reduceToInt, Int32.reduceToNatClampNeg, Int.reduceLT, Int.reduceLE, Int.reduceNeg, true_and, and_true, or_self, or_false, false_or, false_and, and_false, true_or, or_true, if_true, if_false, ne_eq, Classical.not_not, not_true_eq_false, not_false_eq_true, true_implies, false_implies, implies_true, Nat.reduceEqDiff, Nat.reduceAdd, Nat.reduceLeDiff, Nat.reduceSub, reduceCtorEq, reduceIte, b13_40, skX s1, srX s1, h00, ho, z0, rd_m s1 r1 hn0 ht (by omega) (by omega : 0 < d - 1), Nat.reduceLT]
        simp (disch := omega) only [nI_leN]
        refine ⟨fun c => absurd c (by omega), fun _ => ?_⟩
        simp only [lv_args, z_v, z_lg, z_h, z_u, z_u1, z_c, z_ct, z_sk, sbne, lst1_d, ldel, lst2_d, ldel2, z_sw, z_rok, zi, eq_self, List.map_cons, List.map_nil, List.append_nil, List.nil_append, List.cons_append, Int32.reduceLT, Int32.reduceLE, Int32.reduceAdd, Int32.reduceSub, Int32.reduceMul, Int32.reduceToInt, Int32.reduceToNatClampNeg, Int.reduceLT, Int.reduceLE, Int.reduceNeg, true_and, and_true, or_self, or_false, false_or, false_and, and_false, true_or, or_true, if_true, if_false, ne_eq, Classical.not_not, not_true_eq_false, not_false_eq_true, true_implies, false_implies, implies_true, Nat.reduceEqDiff, Nat.reduceAdd, Nat.reduceLeDiff, Nat.reduceSub, reduceCtorEq, reduceIte, b13_52, skX s1, srX s1, h00, rd_w nk s1 r1 tc (hlf c x2 x1) x5 (by omega : 0 < d - 1), Nat.reduceLT]
        by_cases cw : wrd N c = 10
        · have c6 : nK N c = 6 := Classical.byContradiction fun w => by
            have : wrd N c = 0 := by unfold wrd; rw [pts_no w]
            omega
          have go := fun hs => dfn cw hs [] (Or.inl rfl)
          simp only [List.nil_append, List.cons_append] at go
          simp only [cw, ← e9, not_true_eq_false, false_imp_iff, true_imp_iff, true_and]
          simp only [lv_args, z_v, z_lg, z_h, z_u, z_u1, z_c, z_ct, z_sk, sbne, lst1_d, ldel, lst2_d, ldel2, z_sw, z_rok, zi, eq_self, List.map_cons, List.map_nil, List.append_nil, List.nil_append, List.cons_append, Int32.reduceLT, Int32.reduceLE, Int32.reduceAdd, Int32.reduceSub, Int32.reduceMul, Int32.reduceToInt, Int32.reduceToNatClampNeg, Int.reduceLT, Int.reduceLE, Int.reduceNeg, true_and, and_true, or_self, or_false, false_or, false_and, and_false, true_or, or_true, if_true, if_false, ne_eq, Classical.not_not, not_true_eq_false, not_false_eq_true, true_implies, false_implies, implies_true, Nat.reduceEqDiff, Nat.reduceAdd, Nat.reduceLeDiff, Nat.reduceSub, reduceCtorEq, reduceIte, b13_65, skX s1, h00]
          refine sp_shp (w := 10) (lv := 0) nk s1 r1 tc c6 x5 (by decide) (by decide) (by omega) ?_
          have et : decide ((0 : Nat) = 0) = true := rfl
          rw [et]
          cases hs : shp N c 10 true with
          | true =>
            simp only [lv_args, z_v, z_lg, z_h, z_u, z_u1, z_c, z_ct, z_sk, sbne, lst1_d, ldel, lst2_d, ldel2, z_sw, z_rok, zi, eq_self, List.map_cons, List.map_nil, List.append_nil, List.nil_append, List.cons_append, Int32.reduceLT, Int32.reduceLE, Int32.reduceAdd, Int32.reduceSub, Int32.reduceMul, Int32.reduceToInt, Int32.reduceToNatClampNeg, Int.reduceLT, Int.reduceLE, Int.reduceNeg, true_and, and_true, or_self, or_false, false_or, false_and, and_false, true_or, or_true, if_true, if_false, ne_eq, Classical.not_not, not_true_eq_false, not_false_eq_true, true_implies, false_implies, implies_true, Nat.reduceEqDiff, Nat.reduceAdd, Nat.reduceLeDiff, Nat.reduceSub, reduceCtorEq, reduceIte, b13_65, skX s1, Nat.reduceLT, eb1, z10]
            exact go hs
          | false =>
            have o1 := (nxt df h1 [] (Or.inl rfl) (skip (fun w => by rw [hs] at w; cases w.2.1)) (by omega) c1 F1 D1).1
            simp only [List.nil_append, List.cons_append] at o1
            simp only [lv_args, z_v, z_lg, z_h, z_u, z_u1, z_c, z_ct, z_sk, sbne, lst1_d, ldel, lst2_d, ldel2, z_sw, z_rok, zi, eq_self, List.map_cons, List.map_nil, List.append_nil, List.nil_append, List.cons_append, Int32.reduceLT, Int32.reduceLE, Int32.reduceAdd, Int32.reduceSub, Int32.reduceMul, Int32.reduceToInt, Int32.reduceToNatClampNeg, Int.reduceLT, Int.reduceLE, Int.reduceNeg, true_and, and_true, or_self, or_false, false_or, false_and, and_false, true_or, or_true, if_true, if_false, ne_eq, Classical.not_not, not_true_eq_false, not_false_eq_true, true_implies, false_implies, implies_true, Nat.reduceEqDiff, Nat.reduceAdd, Nat.reduceLeDiff, Nat.reduceSub, reduceCtorEq, reduceIte, b13_65, skX s1, Nat.reduceLT, eb0]
            exact o1
        · have o1 := (nxt df h1 [] (Or.inl rfl) (skip (fun w => cw w.1)) (by omega) c1 F1 D1).1
          simp only [List.nil_append, List.cons_append] at o1
          have ne : ¬ wJ (wrd N c) = 9 := fun e => cw (by
            have key : ∀ w, w ≤ 10 → wJ w = 9 → w = 10 := by decide
            exact key _ hw e)
          simp only [ne, not_false_eq_true, false_imp_iff, true_imp_iff, and_true]
          exact o1
      · simp only [List.nil_append, List.cons_append]
        simp only [lv_args, z_v, z_lg, z_h, z_u, z_u1, z_c, z_ct, z_sk, sbne, lst1_d, ldel, lst2_d, ldel2, z_sw, z_rok, zi, eq_self, List.map_cons, List.map_nil, List.append_nil, List.nil_append, List.cons_append, Int32.reduceLT, Int32.reduceLE, Int32.reduceAdd, Int32.reduceSub, Int32.reduceMul, Int32.reduceToInt, Int32.reduceToNatClampNeg, Int.reduceLT, Int.reduceLE, Int.reduceNeg, true_and, and_true, or_self, or_false, false_or, false_and, and_false, true_or, or_true, if_true, if_false, ne_eq, Classical.not_not, not_true_eq_false, not_false_eq_true, true_implies, false_implies, implies_true, Nat.reduceEqDiff, Nat.reduceAdd, Nat.reduceLeDiff, Nat.reduceSub, reduceCtorEq, reduceIte, b13_40, skX s1, srX s1, h00, ho, z0, rd_m s1 r1 hn0 ht (by omega) (by omega : 0 < d - 1), Nat.reduceLT]
        simp (disch := omega) only [nI_leN]
        refine ⟨fun c => absurd c (by omega), fun _ => ?_⟩
        simp only [lv_args, z_v, z_lg, z_h, z_u, z_u1, z_c, z_ct, z_sk, sbne, lst1_d, ldel, lst2_d, ldel2, z_sw, z_rok, zi, eq_self, List.map_cons, List.map_nil, List.append_nil, List.nil_append, List.cons_append, Int32.reduceLT, Int32.reduceLE, Int32.reduceAdd, Int32.reduceSub, Int32.reduceMul, Int32.reduceToInt, Int32.reduceToNatClampNeg, Int.reduceLT, Int.reduceLE, Int.reduceNeg, true_and, and_true, or_self, or_false, false_or, false_and, and_false, true_or, or_true, if_true, if_false, ne_eq, Classical.not_not, not_true_eq_false, not_false_eq_true, true_implies, false_implies, implies_true, Nat.reduceEqDiff, Nat.reduceAdd, Nat.reduceLeDiff, Nat.reduceSub, reduceCtorEq, reduceIte, b13_52, skX s1, srX s1, h00, rd_w nk s1 r1 tc (hlf c x2 x1) x5 (by omega : 0 < d - 1), Nat.reduceLT]
        by_cases cw : wrd N c = 10
        · have c6 : nK N c = 6 := Classical.byContradiction fun w => by
            have : wrd N c = 0 := by unfold wrd; rw [pts_no w]
            omega
          have go := fun hs => dfn cw hs [(3, .int x)] (Or.inr ⟨x, rfl⟩)
          simp only [List.nil_append, List.cons_append] at go
          simp only [cw, ← e9, not_true_eq_false, false_imp_iff, true_imp_iff, true_and]
          simp only [lv_args, z_v, z_lg, z_h, z_u, z_u1, z_c, z_ct, z_sk, sbne, lst1_d, ldel, lst2_d, ldel2, z_sw, z_rok, zi, eq_self, List.map_cons, List.map_nil, List.append_nil, List.nil_append, List.cons_append, Int32.reduceLT, Int32.reduceLE, Int32.reduceAdd, Int32.reduceSub, Int32.reduceMul, Int32.reduceToInt, Int32.reduceToNatClampNeg, Int.reduceLT, Int.reduceLE, Int.reduceNeg, true_and, and_true, or_self, or_false, false_or, false_and, and_false, true_or, or_true, if_true, if_false, ne_eq, Classical.not_not, not_true_eq_false, not_false_eq_true, true_implies, false_implies, implies_true, Nat.reduceEqDiff, Nat.reduceAdd, Nat.reduceLeDiff, Nat.reduceSub, reduceCtorEq, reduceIte, b13_65, skX s1, h00]
          refine sp_shp (w := 10) (lv := 0) nk s1 r1 tc c6 x5 (by decide) (by decide) (by omega) ?_
          have et : decide ((0 : Nat) = 0) = true := rfl
          rw [et]
          cases hs : shp N c 10 true with
          | true =>
            simp only [lv_args, z_v, z_lg, z_h, z_u, z_u1, z_c, z_ct, z_sk, sbne, lst1_d, ldel, lst2_d, ldel2, z_sw, z_rok, zi, eq_self, List.map_cons, List.map_nil, List.append_nil, List.nil_append, List.cons_append, Int32.reduceLT, Int32.reduceLE, Int32.reduceAdd, Int32.reduceSub, Int32.reduceMul, Int32.reduceToInt, Int32.reduceToNatClampNeg, Int.reduceLT, Int.reduceLE, Int.reduceNeg, true_and, and_true, or_self, or_false, false_or, false_and, and_false, true_or, or_true, if_true, if_false, ne_eq, Classical.not_not, not_true_eq_false, not_false_eq_true, true_implies, false_implies, implies_true, Nat.reduceEqDiff, Nat.reduceAdd, Nat.reduceLeDiff, Nat.reduceSub, reduceCtorEq, reduceIte, b13_65, skX s1, Nat.reduceLT, eb1, z10]
            exact go hs
          | false =>
            have o1 := (nxt df h1 [(3, .int x)] (Or.inr ⟨x, rfl⟩) (skip (fun w => by rw [hs] at w; cases w.2.1)) (by omega) c1 F1 D1).1
            simp only [List.nil_append, List.cons_append] at o1
            simp only [lv_args, z_v, z_lg, z_h, z_u, z_u1, z_c, z_ct, z_sk, sbne, lst1_d, ldel, lst2_d, ldel2, z_sw, z_rok, zi, eq_self, List.map_cons, List.map_nil, List.append_nil, List.nil_append, List.cons_append, Int32.reduceLT, Int32.reduceLE, Int32.reduceAdd, Int32.reduceSub, Int32.reduceMul, Int32.reduceToInt, Int32.reduceToNatClampNeg, Int.reduceLT, Int.reduceLE, Int.reduceNeg, true_and, and_true, or_self, or_false, false_or, false_and, and_false, true_or, or_true, if_true, if_false, ne_eq, Classical.not_not, not_true_eq_false, not_false_eq_true, true_implies, false_implies, implies_true, Nat.reduceEqDiff, Nat.reduceAdd, Nat.reduceLeDiff, Nat.reduceSub, reduceCtorEq, reduceIte, b13_65, skX s1, Nat.reduceLT, eb0]
            exact o1
        · have o1 := (nxt df h1 [(3, .int x)] (Or.inr ⟨x, rfl⟩) (skip (fun w => cw w.1)) (by omega) c1 F1 D1).1
          simp only [List.nil_append, List.cons_append] at o1
          have ne : ¬ wJ (wrd N c) = 9 := fun e => cw (by
            have key : ∀ w, w ≤ 10 → wJ w = 9 → w = 10 := by decide
            exact key _ hw e)
          simp only [ne, not_false_eq_true, false_imp_iff, true_imp_iff, and_true]
          exact o1
  have s := c.1
  have l46 := (c.2.2.2.2 46 (by decide)).2
  obtain ⟨cg, mg, gg, _⟩ := cb_I (n := K.length) c (r := 46) (by decide) (by omega) (by omega)
  have FG : FrD p h (rmI h 46 K.length) := ⟨gg.1, gg.2.2.1, fun a i _ => congrFun (congrFun gg.2.1 a) i, fun a ha h46 => gg.2.2.2.2.1 a ha h46⟩
  have hL : ∀ z ∈ [((0 : Nat), Value.ref 39)], ∀ q, z.2 = .ref q → q ≠ 46 ∧ q < 130 := fun z hz q e => by
    simp only [List.mem_cons, List.not_mem_nil, or_false] at hz
    subst hz
    injection e with e
    subst e
    exact ⟨by decide, by decide⟩
  unfold aEv
  simp only [lv_args, z_v, z_lg, z_h, z_u, z_u1, z_c, z_ct, z_sk, sbne, lst1_d, ldel, lst2_d, ldel2, z_sw, z_rok, zi, eq_self, List.map_cons, List.map_nil, List.append_nil, List.nil_append, List.cons_append, Int32.reduceLT, Int32.reduceLE, Int32.reduceAdd, Int32.reduceSub, Int32.reduceMul, Int32.reduceToInt, Int32.reduceToNatClampNeg, Int.reduceLT, Int.reduceLE, Int.reduceNeg, true_and, and_true, or_self, or_false, false_or, false_and, and_false, true_or, or_true, if_true, if_false, ne_eq, Classical.not_not, not_true_eq_false, not_false_eq_true, true_implies, false_implies, implies_true, Nat.reduceEqDiff, Nat.reduceAdd, Nat.reduceLeDiff, Nat.reduceSub, reduceCtorEq, reduceIte, b13_0, skX s, srX s, h00, e81_4 _ _ s, e45, Nat.reduceLT]
  refine grw_I (st := []) mm_13 dX0_gatherDefined_15 ml_0_101 dX0_gatherDefined_18 fl_0_18 rfl (by unfold finOK; decide +kernel) (by omega) s c.2.1 c.2.2 (s.1 39 (by decide)) (by decide) (s.2.1 39 4 rfl) (s.1 46 (by decide)) (by decide) (by decide) rt_pg.2.2.2.2.2.2 hL (by omega) (by omega) ?_
  generalize rmI h 46 K.length = hg at *
  have sg := cg.1
  have l46g := (cg.2.2.2.2 46 (by decide)).2
  simp only [lv_args, z_v, z_lg, z_h, z_u, z_u1, z_c, z_ct, z_sk, sbne, lst1_d, ldel, lst2_d, ldel2, z_sw, z_rok, zi, eq_self, List.map_cons, List.map_nil, List.append_nil, List.nil_append, List.cons_append, Int32.reduceLT, Int32.reduceLE, Int32.reduceAdd, Int32.reduceSub, Int32.reduceMul, Int32.reduceToInt, Int32.reduceToNatClampNeg, Int.reduceLT, Int.reduceLE, Int.reduceNeg, true_and, and_true, or_self, or_false, false_or, false_and, and_false, true_or, or_true, if_true, if_false, ne_eq, Classical.not_not, not_true_eq_false, not_false_eq_true, true_implies, false_implies, implies_true, Nat.reduceEqDiff, Nat.reduceAdd, Nat.reduceLeDiff, Nat.reduceSub, reduceCtorEq, reduceIte, b13_21, skX sg, srX sg, h00]
  refine sp_fillI (n := hN hg 46) (sg.1 46 (by decide)) rfl (by omega) ?_
  have c2 : CB (pA hg 46 (filI (hA hg 46) (hN hg 46) (-1))) := cb_a cg
  have s2 := c2.1
  have F2 : FrD p h (pA hg 46 (filI (hA hg 46) (hN hg 46) (-1))) := frd_tr FG ⟨rfl, rfl, fun _ _ _ => rfl, fun a _ ha => ⟨up1_ne ha, rfl, rfl⟩⟩
  have r2 := rd_frd F2 hp r
  have D2 : DA1 K [] p (pA hg 46 (filI (hA hg 46) (hN hg 46) (-1))) := ⟨mg, fun j hj => by
    show filI (hA hg 46) (hN hg 46) (-1) j = _
    rw [if_neg (by simp)]
    exact if_pos (by omega), by
    show hI hg p 15 = 0
    rw [gg.2.1]; exact e15⟩
  have go := loop (pts N 0) 0 1 [] _ [] (Or.inl rfl) t2 (Nat.zero_add _) (Nat.le_refl _) c2 F2 D2 hq
  simp only [List.nil_append] at go
  simp only [lv_args, z_v, z_lg, z_h, z_u, z_u1, z_c, z_ct, z_sk, sbne, lst1_d, ldel, lst2_d, ldel2, z_sw, z_rok, zi, eq_self, List.map_cons, List.map_nil, List.append_nil, List.nil_append, List.cons_append, Int32.reduceLT, Int32.reduceLE, Int32.reduceAdd, Int32.reduceSub, Int32.reduceMul, Int32.reduceToInt, Int32.reduceToNatClampNeg, Int.reduceLT, Int.reduceLE, Int.reduceNeg, true_and, and_true, or_self, or_false, false_or, false_and, and_false, true_or, or_true, if_true, if_false, ne_eq, Classical.not_not, not_true_eq_false, not_false_eq_true, true_implies, false_implies, implies_true, Nat.reduceEqDiff, Nat.reduceAdd, Nat.reduceLeDiff, Nat.reduceSub, reduceCtorEq, reduceIte, b13_21, skX sg, skX s2, srX s2, h00, z0, rd_f s2 r2 hn0, t1, Nat.reduceLT]
  exact go
end CCP
