/-! BUILD. A name out of the text -/
section NMF
variable {h h' : Hp} {Q : Option Value → Hp → Prop} {d n : Nat} {t : Nat → Nat} {K : List KY} {mt : List Nat}
/-- the signs of a word -/
def str (t : Nat → Nat) (i j : Nat) : List Int32 := (List.range (j - i)).map (fun m => nI (t (i + m)))
theorem str_s {i j : Nat} (hij : i ≤ j) : str t i (j + 1) = str t i j ++ [nI (t j)] := by
  unfold str
  rw [show j + 1 - i = (j - i) + 1 by omega, List.range_succ, List.map_append]
  simp only [List.map_cons, List.map_nil]
  rw [show i + (j - i) = j by omega]
theorem kyS_s {s : List Int32} {c : Int32} : kyS (s ++ [c]) = tkS (kyS s) c := by
  unfold kyS
  rw [List.foldl_append]; rfl
theorem kyS_len : ∀ (s : List Int32) (k : K3), (s.foldl tkS k).2.2 = k.2.2 + s.length
  | [], _ => rfl
  | c :: s, k => by
    rw [List.foldl_cons, kyS_len s (tkS k c), List.length_cons]
    have : (tkS k c).2.2 = k.2.2 + 1 := by
      unfold tkS
      split <;> rfl
    rw [this]
    omega
theorem str_len {i j : Nat} : (str t i j).length = j - i := by
  unfold str
  rw [List.length_map, List.length_range]
theorem rt_frn (f : FrN h h') (r : RT t n h) : RT t n h' := by
  obtain ⟨r1, r2, r3, r4, r5, r6⟩ := r
  obtain ⟨f1, f2, f3, f4, f5, f6, f7, f8, f9, f10⟩ := f
  exact ⟨by rw [f7 3 (by decide)]; exact r1, by rw [f2]; exact r2, by rw [f3]; exact r3, r4, by rw [f9 1 (by decide) (by decide) (by decide)]; exact r5, r6⟩
theorem sp_meet {i : Nat} (s : Sk h) (nt : NT K mt h) (hi : i < K.length) (hr8 : K.length ≤ hN h 8) (hm : mt.length < 3000) (hq : ∀ h', NT K (if i ∈ mt then mt else mt ++ [i]) h' → FrN h h' → Q none h') : aEv d 82 [.ref 4, .int (nI i)] h Q := by
  have nt0 := nt
  obtain ⟨⟨n1, n2⟩, n3, n4, n5, n6, ⟨n7, n8, n9⟩, n10⟩ := nt
  rw [e82_4 _ _ s, n1]
  simp (disch := omega) only [nI_lt0, nI_leN, nI_ti, nI_cl, le0N, ltNN, false_imp_iff, true_imp_iff, not_false_eq_true, true_and]
  refine ⟨fun c => absurd c (by omega), fun _ => ⟨by omega, fun c => ?_, fun c => ⟨by omega, ?_⟩⟩⟩
  · have hin : i ∈ mt := by
      rcases n10 i hi with ⟨j, e, _⟩ | ⟨_, e⟩
      · exact List.mem_of_getElem? e
      · exact absurd e c
    rw [if_pos hin] at hq
    exact hq h nt0 frn_rf
  · have hin : i ∉ mt := by
      rcases n10 i hi with ⟨j, e, e2⟩ | ⟨e, _⟩
      · rw [c] at e2
        have hj := g_lt e
        exact absurd e2.symm (fun q => by
          have := congrArg Int32.toInt q
          rw [nI_toInt (by omega)] at this
          have h2 : (-1 : Int32).toInt = -1 := by decide
          omega)
      · exact e
    rw [if_neg hin] at hq
    rw [n7, nI_1] at *
    refine hq _ ⟨⟨n1, n2⟩, n3, n4, n5, n6, ⟨?_, ?_, fun x hx => ?_⟩, fun x hx => ?_⟩ ⟨rfl, rfl, rfl, rfl, rfl, rfl, fun a c => up2_row c, fun _ _ => rfl, fun a c1 c2 c3 => up1_ne c2, fun _ _ _ => rfl⟩
    · rw [List.length_append]; rfl
    · exact List.nodup_append.mpr ⟨n8, by simp, fun a ha b hb e => by
        simp only [List.mem_cons, List.not_mem_nil, or_false] at hb
        subst hb
        exact hin (e ▸ ha)⟩
    · rcases List.mem_append.mp hx with hx | hx
      · exact n9 x hx
      · simp only [List.mem_cons, List.not_mem_nil, or_false] at hx
        rw [hx]; exact hi
    · show (∃ j : Nat, (mt ++ [i])[j]? = some x ∧ (if x = i then nI mt.length else hA h 8 x) = nI j) ∨ _
      by_cases cx : x = i
      · subst cx
        exact Or.inl ⟨mt.length, by simp, if_pos rfl⟩
      · rcases n10 x hx with ⟨j, e, e2⟩ | ⟨e, e2⟩
        · exact Or.inl ⟨j, g_app e, (if_neg cx).trans e2⟩
        · refine Or.inr ⟨fun q => ?_, (if_neg cx).trans e2⟩
          rcases List.mem_append.mp q with q | q
          · exact e q
          · simp only [List.mem_cons, List.not_mem_nil, or_false] at q
            exact cx q
/-- the name that stands from p to e: its number in the table, which may be new there -/
theorem sp_nameFrom {p e : Nat} (s : Sk h) (r : RT t n h) (nt : NT K mt h) (hpe : p ≤ e) (hen : e ≤ n) (hd : 12 < d) (room : K.length < hN h 5 ∧ K.length < hN h 6 ∧ K.length < hN h 7 ∧ K.length < hN h 8) (hl : K.length < 2990) (hr5 : hN h 5 ≤ 10000) (hm : mt.length < 3000)
    (hq : ∀ i K' h', ((K[i]? = some (ky (str t p e)) ∧ K' = K) ∨ (ky (str t p e) ∉ K ∧ i = K.length ∧ K' = K ++ [ky (str t p e)])) → NT K' (if i ∈ mt then mt else mt ++ [i]) h' → FrN h h' → Q (some (.int (nI i))) h') : aEv d 123 [.ref 3, .int (nI p), .int (nI e)] h Q := by
  have h0 : 0 < d := by omega
  have r4 := r.2.2.2.1
  have e31 : hR h 3 1 = some 4 := s.2.1 3 1 rfl
  have hn0 := hen
  have tail : ∀ (h1 : Hp), FrN h h1 → NT K mt h1 → SG (kyS (str t p e)) h1 → aWP d 123 32 [(3, .int (nI e)), (0, .ref 3), (1, .int (nI p)), (2, .int (nI e))] [] h1 Q := by
    intro h1 F1 nt1 g1
    have s1 := frn_sk F1 s
    have n1 := F1.2.2.1
    have fin : ∀ (i : Nat) (K' : List KY) (h2 : Hp), ((K[i]? = some (ky (str t p e)) ∧ K' = K) ∨ (ky (str t p e) ∉ K ∧ i = K.length ∧ K' = K ++ [ky (str t p e)])) → NT K' mt h2 → FrN h1 h2 → aEv (d - 1) 82 [.ref 4, .int (nI i)] h2 (aCt d 123 48 [(3, .int (nI i)), (0, .ref 3), (1, .int (nI p)), (2, .int (nI e))] [] h2 Q) := by
      intro i K' h2 hc nt2 F2
      have s2 := frn_sk F2 s1
      have hi : i < K'.length := by
        rcases hc with ⟨e1, rfl⟩ | ⟨_, e1, rfl⟩
        · exact g_lt e1
        · rw [List.length_append, e1]; exact Nat.lt_succ_self _
      have hK' : K'.length ≤ hN h2 8 := by
        have : K'.length ≤ K.length + 1 := by
          rcases hc with ⟨_, rfl⟩ | ⟨_, _, rfl⟩
          · omega
          · rw [List.length_append]; exact Nat.le_refl _
        rw [F2.2.2.1, n1]
        omega
      refine sp_meet s2 nt2 hi hK' hm (fun h3 nt3 F3 => ?_)
      have s3 := frn_sk F3 s2
      have hvv : hv h3 = hv h2 := F3.2.2.2.2.2.1
      simp only [lv_args, z_v, z_lg, z_h, z_u, z_u1, z_c, z_ct, z_sk, sbne, lst1_d, ldel, lst2_d, ldel2, z_sw, z_rok, zi, eq_self, List.map_cons, List.map_nil, List.append_nil, List.nil_append, List.cons_append, Int32.reduceLT, Int32.reduceLE, Int32.reduceAdd, Int32.reduceSub, Int32.reduceMul, Int32.reduceToInt, Int32.reduceToNatClampNeg, Int.reduceLT, Int.reduceLE, Int.reduceNeg, true_and, and_true, or_self, or_false, false_or, false_and, and_false, true_or, or_true, if_true, if_false, ne_eq, Classical.not_not, not_true_eq_false, not_false_eq_true, true_implies, false_implies, implies_true, Nat.reduceEqDiff, Nat.reduceAdd, Nat.reduceLeDiff, Nat.reduceSub, reduceCtorEq, reduceIte, b123_32, skX s2, hvv, Nat.reduceLT]
      exact hq i K' h3 hc nt3 (frn_tr F1 (frn_tr F2 F3))
    simp only [lv_args, z_v, z_lg, z_h, z_u, z_u1, z_c, z_ct, z_sk, sbne, lst1_d, ldel, lst2_d, ldel2, z_sw, z_rok, zi, eq_self, List.map_cons, List.map_nil, List.append_nil, List.nil_append, List.cons_append, Int32.reduceLT, Int32.reduceLE, Int32.reduceAdd, Int32.reduceSub, Int32.reduceMul, Int32.reduceToInt, Int32.reduceToNatClampNeg, Int.reduceLT, Int.reduceLE, Int.reduceNeg, true_and, and_true, or_self, or_false, false_or, false_and, and_false, true_or, or_true, if_true, if_false, ne_eq, Classical.not_not, not_true_eq_false, not_false_eq_true, true_implies, false_implies, implies_true, Nat.reduceEqDiff, Nat.reduceAdd, Nat.reduceLeDiff, Nat.reduceSub, reduceCtorEq, reduceIte, b123_32, skX s1, srX s1, h0]
    refine sp_endName (k := ky (str t p e)) s1 nt1 g1.1 g1.2.1 (by rw [n1]; exact room) (by omega) (by rw [n1]; exact hr5) (by omega) (fun i hi => ?_) (fun hk h2 nt2 F2 => ?_)
    · simp only [lv_args, z_v, z_lg, z_h, z_u, z_u1, z_c, z_ct, z_sk, sbne, lst1_d, ldel, lst2_d, ldel2, z_sw, z_rok, zi, eq_self, List.map_cons, List.map_nil, List.append_nil, List.nil_append, List.cons_append, Int32.reduceLT, Int32.reduceLE, Int32.reduceAdd, Int32.reduceSub, Int32.reduceMul, Int32.reduceToInt, Int32.reduceToNatClampNeg, Int.reduceLT, Int.reduceLE, Int.reduceNeg, true_and, and_true, or_self, or_false, false_or, false_and, and_false, true_or, or_true, if_true, if_false, ne_eq, Classical.not_not, not_true_eq_false, not_false_eq_true, true_implies, false_implies, implies_true, Nat.reduceEqDiff, Nat.reduceAdd, Nat.reduceLeDiff, Nat.reduceSub, reduceCtorEq, reduceIte, b123_32, skX s1, srX s1, h0, Nat.reduceLT]
      exact fin i K h1 (Or.inl ⟨hi, rfl⟩) nt1 frn_rf
    · have s2 := frn_sk F2 s1
      have hvv : hv h2 = hv h1 := F2.2.2.2.2.2.1
      simp only [lv_args, z_v, z_lg, z_h, z_u, z_u1, z_c, z_ct, z_sk, sbne, lst1_d, ldel, lst2_d, ldel2, z_sw, z_rok, zi, eq_self, List.map_cons, List.map_nil, List.append_nil, List.nil_append, List.cons_append, Int32.reduceLT, Int32.reduceLE, Int32.reduceAdd, Int32.reduceSub, Int32.reduceMul, Int32.reduceToInt, Int32.reduceToNatClampNeg, Int.reduceLT, Int.reduceLE, Int.reduceNeg, true_and, and_true, or_self, or_false, false_or, false_and, and_false, true_or, or_true, if_true, if_false, ne_eq, Classical.not_not, not_true_eq_false, not_false_eq_true, true_implies, false_implies, implies_true, Nat.reduceEqDiff, Nat.reduceAdd, Nat.reduceLeDiff, Nat.reduceSub, reduceCtorEq, reduceIte, b123_32, skX s1, skX s2, srX s2, h0, hvv, Nat.reduceLT]
      exact fin K.length _ h2 (Or.inr ⟨hk, rfl, rfl⟩) nt2 F2
  have loop : ∀ (m i : Nat) (h1 : Hp), i + m = e → p ≤ i → FrN h h1 → NT K mt h1 → SG (kyS (str t p i)) h1 → aWP d 123 9 [(3, .int (nI i)), (0, .ref 3), (1, .int (nI p)), (2, .int (nI e))] [] h1 Q := by
    intro m
    induction m with
    | zero =>
      intro i h1 hi hpi F1 nt1 g1
      have hi : i = e := by omega
      subst hi
      simp only [lv_args, z_v, z_lg, z_h, z_u, z_u1, z_c, z_ct, z_sk, sbne, lst1_d, ldel, lst2_d, ldel2, z_sw, z_rok, zi, eq_self, List.map_cons, List.map_nil, List.append_nil, List.nil_append, List.cons_append, Int32.reduceLT, Int32.reduceLE, Int32.reduceAdd, Int32.reduceSub, Int32.reduceMul, Int32.reduceToInt, Int32.reduceToNatClampNeg, Int.reduceLT, Int.reduceLE, Int.reduceNeg, true_and, and_true, or_self, or_false, false_or, false_and, and_false, true_or, or_true, if_true, if_false, ne_eq, Classical.not_not, not_true_eq_false, not_false_eq_true, true_implies, false_implies, implies_true, Nat.reduceEqDiff, Nat.reduceAdd, Nat.reduceLeDiff, Nat.reduceSub, reduceCtorEq, reduceIte, b123_9]
      simp (disch := omega) only [nI_leN]
      exact ⟨fun _ => tail h1 F1 nt1 g1, fun c => absurd (Nat.le_refl _) c⟩
    | succ m ih =>
      intro i h1 hi hpi F1 nt1 g1
      have s1 := frn_sk F1 s
      have r1 := rt_frn F1 r
      simp only [lv_args, z_v, z_lg, z_h, z_u, z_u1, z_c, z_ct, z_sk, sbne, lst1_d, ldel, lst2_d, ldel2, z_sw, z_rok, zi, eq_self, List.map_cons, List.map_nil, List.append_nil, List.nil_append, List.cons_append, Int32.reduceLT, Int32.reduceLE, Int32.reduceAdd, Int32.reduceSub, Int32.reduceMul, Int32.reduceToInt, Int32.reduceToNatClampNeg, Int.reduceLT, Int.reduceLE, Int.reduceNeg, true_and, and_true, or_self, or_false, false_or, false_and, and_false, true_or, or_true, if_true, if_false, ne_eq, Classical.not_not, not_true_eq_false, not_false_eq_true, true_implies, false_implies, implies_true, Nat.reduceEqDiff, Nat.reduceAdd, Nat.reduceLeDiff, Nat.reduceSub, reduceCtorEq, reduceIte, b123_9]
      simp (disch := omega) only [nI_leN]
      refine ⟨fun c => absurd c (by omega), fun _ => ?_⟩
      simp only [lv_args, z_v, z_lg, z_h, z_u, z_u1, z_c, z_ct, z_sk, sbne, lst1_d, ldel, lst2_d, ldel2, z_sw, z_rok, zi, eq_self, List.map_cons, List.map_nil, List.append_nil, List.nil_append, List.cons_append, Int32.reduceLT, Int32.reduceLE, Int32.reduceAdd, Int32.reduceSub, Int32.reduceMul, Int32.reduceToInt, Int32.reduceToNatClampNeg, Int.reduceLT, Int.reduceLE, Int.reduceNeg, true_and, and_true, or_self, or_false, false_or, false_and, and_false, true_or, or_true, if_true, if_false, ne_eq, Classical.not_not, not_true_eq_false, not_false_eq_true, true_implies, false_implies, implies_true, Nat.reduceEqDiff, Nat.reduceAdd, Nat.reduceLeDiff, Nat.reduceSub, reduceCtorEq, reduceIte, b123_14, skX s1, srX s1, h0]
      refine sp_signAt s1 r1 (by omega) ?_
      have es : sgn t n i = t i := if_pos (by omega)
      rw [es]
      simp only [lv_args, z_v, z_lg, z_h, z_u, z_u1, z_c, z_ct, z_sk, sbne, lst1_d, ldel, lst2_d, ldel2, z_sw, z_rok, zi, eq_self, List.map_cons, List.map_nil, List.append_nil, List.nil_append, List.cons_append, Int32.reduceLT, Int32.reduceLE, Int32.reduceAdd, Int32.reduceSub, Int32.reduceMul, Int32.reduceToInt, Int32.reduceToNatClampNeg, Int.reduceLT, Int.reduceLE, Int.reduceNeg, true_and, and_true, or_self, or_false, false_or, false_and, and_false, true_or, or_true, if_true, if_false, ne_eq, Classical.not_not, not_true_eq_false, not_false_eq_true, true_implies, false_implies, implies_true, Nat.reduceEqDiff, Nat.reduceAdd, Nat.reduceLeDiff, Nat.reduceSub, reduceCtorEq, reduceIte, b123_14, skX s1, h0, Nat.reduceLT]
      have hk : (kyS (str t p i)).2.2 < 1000000 := by
        unfold kyS
        rw [kyS_len, str_len]
        show 0 + (i - p) < 1000000
        omega
      refine sp_sign s1 nt1 g1 hk (fun h2 nt2 g2 F2 => ?_)
      have s2 := frn_sk F2 s1
      have hvv : hv h2 = hv h1 := F2.2.2.2.2.2.1
      rw [← kyS_s, ← str_s hpi] at g2
      have next := ih (i + 1) h2 (by omega) (by omega) (frn_tr F1 F2) nt2 g2
      simp only [lv_args, z_v, z_lg, z_h, z_u, z_u1, z_c, z_ct, z_sk, sbne, lst1_d, ldel, lst2_d, ldel2, z_sw, z_rok, zi, eq_self, List.map_cons, List.map_nil, List.append_nil, List.nil_append, List.cons_append, Int32.reduceLT, Int32.reduceLE, Int32.reduceAdd, Int32.reduceSub, Int32.reduceMul, Int32.reduceToInt, Int32.reduceToNatClampNeg, Int.reduceLT, Int.reduceLE, Int.reduceNeg, true_and, and_true, or_self, or_false, false_or, false_and, and_false, true_or, or_true, if_true, if_false, ne_eq, Classical.not_not, not_true_eq_false, not_false_eq_true, true_implies, false_implies, implies_true, Nat.reduceEqDiff, Nat.reduceAdd, Nat.reduceLeDiff, Nat.reduceSub, reduceCtorEq, reduceIte, b123_14, skX s1, hvv, Nat.reduceLT, nI_1]
      exact next
  unfold aEv
  simp only [lv_args, z_v, z_lg, z_h, z_u, z_u1, z_c, z_ct, z_sk, sbne, lst1_d, ldel, lst2_d, ldel2, z_sw, z_rok, zi, eq_self, List.map_cons, List.map_nil, List.append_nil, List.nil_append, List.cons_append, Int32.reduceLT, Int32.reduceLE, Int32.reduceAdd, Int32.reduceSub, Int32.reduceMul, Int32.reduceToInt, Int32.reduceToNatClampNeg, Int.reduceLT, Int.reduceLE, Int.reduceNeg, true_and, and_true, or_self, or_false, false_or, false_and, and_false, true_or, or_true, if_true, if_false, ne_eq, Classical.not_not, not_true_eq_false, not_false_eq_true, true_implies, false_implies, implies_true, Nat.reduceEqDiff, Nat.reduceAdd, Nat.reduceLeDiff, Nat.reduceSub, reduceCtorEq, reduceIte, b123_0, skX s, srX s, h0]
  refine sp_start s nt (fun h1 nt1 g1 F1 => ?_)
  have s1 := frn_sk F1 s
  have hvv : hv h1 = hv h := F1.2.2.2.2.2.1
  simp only [lv_args, z_v, z_lg, z_h, z_u, z_u1, z_c, z_ct, z_sk, sbne, lst1_d, ldel, lst2_d, ldel2, z_sw, z_rok, zi, eq_self, List.map_cons, List.map_nil, List.append_nil, List.nil_append, List.cons_append, Int32.reduceLT, Int32.reduceLE, Int32.reduceAdd, Int32.reduceSub, Int32.reduceMul, Int32.reduceToInt, Int32.reduceToNatClampNeg, Int.reduceLT, Int.reduceLE, Int.reduceNeg, true_and, and_true, or_self, or_false, false_or, false_and, and_false, true_or, or_true, if_true, if_false, ne_eq, Classical.not_not, not_true_eq_false, not_false_eq_true, true_implies, false_implies, implies_true, Nat.reduceEqDiff, Nat.reduceAdd, Nat.reduceLeDiff, Nat.reduceSub, reduceCtorEq, reduceIte, b123_0, skX s, hvv, Nat.reduceLT]
  have e0 : kyS (str t p p) = (0, 0, 0) := by
    unfold str
    rw [Nat.sub_self]; rfl
  rw [← e0] at g1
  exact loop (e - p) p h1 (by omega) (Nat.le_refl _) F1 nt1 g1
end NMF
