/-! BUILD. The reference: the text becomes tokens -/
theorem rb_8 : ∀ c, c < 256 → (rb c).toInt8.toInt32 = rb c := by decide +kernel
theorem we_rng {t : Nat → Nat} {n : Nat} : ∀ (m i : Nat), i + m = n → i ≤ we t n i ∧ we t n i ≤ n ∧ (∀ j, i ≤ j → j < we t n i → isW (t j) = true) := by
  intro m
  induction m with
  | zero =>
    intro i hi
    rw [we_0 (by omega)]
    exact ⟨Nat.le_refl _, by omega, fun j h1 h2 => by omega⟩
  | succ m ih =>
    intro i hi
    by_cases c : isW (t i) = true
    · rw [we_s (by omega) c]
      obtain ⟨a, b, e⟩ := ih (i + 1) (by omega)
      refine ⟨by omega, b, fun j h1 h2 => ?_⟩
      by_cases cj : j = i
      · rw [cj]; exact c
      · exact e j (by omega) h2
    · rw [we_0 (fun w => c w.2)]
      exact ⟨Nat.le_refl _, by omega, fun j h1 h2 => by omega⟩
section MSS
variable {h h' h0 : Hp} {Q : Option Value → Hp → Prop} {d n q : Nat} {t : Nat → Nat}
def SSt (t : Nat → Nat) (n q : Nat) (h0 : Hp) (p : Nat) (K : List KY) (mt : List Nat) (T : List TK) (h : Hp) : Prop := KS q h0 h ∧ MTn t n K mt q h ∧ TKp T mt h ∧ (p ≤ n ∧ T.length ≤ p ∧ mt.length ≤ T.length ∧ K.length ≤ 30 + T.length)
theorem sp_scanL (m : SMt t n q h0) (hd : 100 < d) : ∀ (r p : Nat) (K : List KY) (mt : List Nat) (T1 : List TK) (h : Hp) (T23 : ALS), p + r = n → (T23 = [] ∨ ∃ x y, T23 = [(3, .int x), (2, .int y)]) → SSt t n q h0 p K mt T1 h → (p = n ∨ (p < n ∧ ¬ bkC (t p) ∧ t p ≠ 59)) → (∀ T2 K' mt' h', (∃ f, Scn t n f p K mt T2 K' mt') → KS q h0 h' → MTn t n K' mt' q h' → TKp (T1 ++ T2) mt' h' → (T1 ++ T2).length ≤ 3001 → K'.length ≤ 30 + (T1 ++ T2).length → Q none h') → aWP d 259 42 ((1, .int (nI p)) :: (T23 ++ [(0, .ref 59)])) [] h Q := by
  have h00 : 0 < d := by omega
  have z0 : (0 : Int32) = nI 0 := rfl
  have z1 : (1 : Int32) = nI 1 := rfl
  have z2 : (2 : Int32) = nI 2 := rfl
  have z3 : (3 : Int32) = nI 3 := rfl
  have z4 : (4 : Int32) = nI 4 := rfl
  have z39 : (39 : Int32) = nI 39 := rfl
  have z40 : (40 : Int32) = nI 40 := rfl
  have z41 : (41 : Int32) = nI 41 := rfl
  have z10 : ¬ (1 : Int32) = 0 := by decide
  have eb0 : bI false = 0 := rfl
  have eb1 : bI true = 1 := rfl
  intro r
  induction r using Nat.strongRecOn with
  | _ r ih =>
  intro p K mt T1 h T23 hr hT S hp hq
  obtain ⟨ky, M, tk, v1, v2, v3, v4⟩ := S
  have m1 := sm_k ky m
  have s := m1.1.1
  obtain ⟨x1, x2, x3, x4⟩ := m1.2.2
  have n61 : hN h 61 = 3000 := m1.1.2.1.2 (61, 3000) (by decide)
  by_cases cp : p = n
  · -- the end
    have P := fun h' (k' : KS q h0 h') M' T' => hq [(0, n, 0)] K mt h' ⟨1, Or.inl ⟨by omega, rfl, rfl, rfl⟩⟩ k' M' T' (by rw [List.length_append, List.length_singleton]; omega) (by rw [List.length_append]; omega)
    rcases hT with rfl | ⟨x, y, rfl⟩
    all_goals
      simp only [List.nil_append, List.cons_append]
      simp only [lv_args, z_v, z_lg, z_h, z_u, z_u1, z_c, z_ct, z_sk, sbne, lst1_d, ldel, lst2_d, ldel2, z_sw, z_rok, zi, eq_self, List.map_cons, List.map_nil, List.append_nil, List.nil_append, List.cons_append, Int32.reduceLT, Int32.reduceLE, Int32.reduceAdd, Int32.reduceSub, Int32.reduceMul, Int32.reduceToInt, Int32.reduceToNatClampNeg, Int.reduceLT, Int.reduceLE, Int.reduceNeg, true_and, and_true, or_self, or_false, false_or, false_and, and_false, true_or, or_true, if_true, if_false, ne_eq, Classical.not_not, not_true_eq_false, not_false_eq_true, true_implies, false_implies, implies_true, Nat.reduceEqDiff, Nat.reduceAdd, Nat.reduceLeDiff, Nat.reduceSub, reduceCtorEq, reduceIte, b259_42, skM s, x1]
      simp (disch := omega) only [nI_leN]
      refine ⟨fun _ => ?_, fun c => absurd (by omega) c⟩
      simp only [lv_args, z_v, z_lg, z_h, z_u, z_u1, z_c, z_ct, z_sk, sbne, lst1_d, ldel, lst2_d, ldel2, z_sw, z_rok, zi, eq_self, List.map_cons, List.map_nil, List.append_nil, List.nil_append, List.cons_append, Int32.reduceLT, Int32.reduceLE, Int32.reduceAdd, Int32.reduceSub, Int32.reduceMul, Int32.reduceToInt, Int32.reduceToNatClampNeg, Int.reduceLT, Int.reduceLE, Int.reduceNeg, true_and, and_true, or_self, or_false, false_or, false_and, and_false, true_or, or_true, if_true, if_false, ne_eq, Classical.not_not, not_true_eq_false, not_false_eq_true, true_implies, false_implies, implies_true, Nat.reduceEqDiff, Nat.reduceAdd, Nat.reduceLeDiff, Nat.reduceSub, reduceCtorEq, reduceIte, b259_183, skM s, x1, h00]
      refine sp_tok (k := 0) (p := n) (v := 0) m ky M tk (by omega) (by decide) (fun w => absurd w (by decide)) (fun w => absurd w (by decide)) rfl rfl (fun w => absurd w (by decide)) (fun h' k' M' T' => ?_)
      have s' := (sm_k k' m).1.1
      have P2 := P h' k' M' T'
      simp only [lv_args, z_v, z_lg, z_h, z_u, z_u1, z_c, z_ct, z_sk, sbne, lst1_d, ldel, lst2_d, ldel2, z_sw, z_rok, zi, eq_self, List.map_cons, List.map_nil, List.append_nil, List.nil_append, List.cons_append, Int32.reduceLT, Int32.reduceLE, Int32.reduceAdd, Int32.reduceSub, Int32.reduceMul, Int32.reduceToInt, Int32.reduceToNatClampNeg, Int.reduceLT, Int.reduceLE, Int.reduceNeg, true_and, and_true, or_self, or_false, false_or, false_and, and_false, true_or, or_true, if_true, if_false, ne_eq, Classical.not_not, not_true_eq_false, not_false_eq_true, true_implies, false_implies, implies_true, Nat.reduceEqDiff, Nat.reduceAdd, Nat.reduceLeDiff, Nat.reduceSub, reduceCtorEq, reduceIte, b259_183, skM s, skM s', Nat.reduceLT]
      exact P2
  have hlt : p < n := by omega
  obtain ⟨_, nb, n59⟩ := hp.elim (fun w => absurd w cp) id
  have c3 : (p < 3000) = True := eq_true (by omega)
  have ep := x3 p hlt
  -- behind a token
  have next : ∀ (p1 : Nat) (K1 : List KY) (mt1 : List Nat) (tkn : TK) (h1 : Hp), p < p1 → SSt t n q h0 p1 K1 mt1 (T1 ++ [tkn]) h1 → (∀ T2 K' mt', (∃ f, Scn t n f p1 K1 mt1 T2 K' mt') → ∃ f, Scn t n f p K mt (tkn :: T2) K' mt') → ∀ L : ALS, (L = [(3, .int (rb (t p))), (2, .int (nI p)), (1, .int (nI p1)), (0, .ref 59)] ∨ L = [(1, .int (nI p1)), (3, .int (rb (t p))), (2, .int (nI p)), (0, .ref 59)]) → aWP d 259 174 L [] h1 Q := by
    intro p1 K1 mt1 tkn h1 hp1 S1 hs L hL
    obtain ⟨k1, M1, tk1, y1, y2, y3, y4⟩ := S1
    have mm := sm_k k1 m
    have s1 := mm.1.1
    have G0 := fun (p' : Nat) (b1 : Bl t n p1 p') (b2 : p' = n ∨ (p' < n ∧ ¬ bkC (t p') ∧ t p' ≠ 59)) (b3 : p1 ≤ p') (b4 : p' ≤ n) => ih (n - p') (by omega) p' K1 mt1 (T1 ++ [tkn]) h1 [(3, .int (rb (t p))), (2, .int (nI p))] (by omega) (Or.inr ⟨_, _, rfl⟩) ⟨k1, M1, tk1, b4, by omega, y3, y4⟩ b2 (fun T2 K' mt' h' f k' M' T' l1 l2 => by
      rw [List.append_assoc] at T' l1 l2
      exact hq (tkn :: T2) K' mt' h' (hs T2 K' mt' ((b1 : Bl t n p1 p') K1 mt1 T2 K' mt' f)) k' M' T' l1 l2)
    simp only [List.nil_append, List.cons_append] at G0
    rcases hL with rfl | rfl
    all_goals
      simp only [lv_args, z_v, z_lg, z_h, z_u, z_u1, z_c, z_ct, z_sk, sbne, lst1_d, ldel, lst2_d, ldel2, z_sw, z_rok, zi, eq_self, List.map_cons, List.map_nil, List.append_nil, List.nil_append, List.cons_append, Int32.reduceLT, Int32.reduceLE, Int32.reduceAdd, Int32.reduceSub, Int32.reduceMul, Int32.reduceToInt, Int32.reduceToNatClampNeg, Int.reduceLT, Int.reduceLE, Int.reduceNeg, true_and, and_true, or_self, or_false, false_or, false_and, and_false, true_or, or_true, if_true, if_false, ne_eq, Classical.not_not, not_true_eq_false, not_false_eq_true, true_implies, false_implies, implies_true, Nat.reduceEqDiff, Nat.reduceAdd, Nat.reduceLeDiff, Nat.reduceSub, reduceCtorEq, reduceIte, b259_174, skM s1, h00]
      refine sp_blanks s1 mm.1.2 mm.2.2 y1 (by omega) (fun p' b1 b2 b3 b4 => ?_)
      have G := G0 p' b1 b2 (by omega) b4
      simp only [lv_args, z_v, z_lg, z_h, z_u, z_u1, z_c, z_ct, z_sk, sbne, lst1_d, ldel, lst2_d, ldel2, z_sw, z_rok, zi, eq_self, List.map_cons, List.map_nil, List.append_nil, List.nil_append, List.cons_append, Int32.reduceLT, Int32.reduceLE, Int32.reduceAdd, Int32.reduceSub, Int32.reduceMul, Int32.reduceToInt, Int32.reduceToNatClampNeg, Int.reduceLT, Int.reduceLE, Int.reduceNeg, true_and, and_true, or_self, or_false, false_or, false_and, and_false, true_or, or_true, if_true, if_false, ne_eq, Classical.not_not, not_true_eq_false, not_false_eq_true, true_implies, false_implies, implies_true, Nat.reduceEqDiff, Nat.reduceAdd, Nat.reduceLeDiff, Nat.reduceSub, reduceCtorEq, reduceIte, b259_174, skM s1, Nat.reduceLT]
      exact G
  have lq : ∀ x : TK, (T1 ++ [x]).length = T1.length + 1 := fun x => by rw [List.length_append]; rfl
  -- a sign that is a token
  have sign : ∀ (k : Nat), (k = 2 ∧ t p = 40) ∨ (k = 3 ∧ t p = 41) ∨ (k = 4 ∧ t p = 39) → ∀ L : ALS, L = [(3, .int (rb (t p))), (2, .int (nI p)), (1, .int (nI p)), (0, .ref 59)] → aWP d 259 99 L [.int (nI k), .ref 59] h Q := by
    intro k hk L hL
    subst hL
    have tk0 : ∀ (mt1 : List Nat) (h1 : Hp), KS q h0 h1 → MTn t n K mt1 q h1 → TKp T1 mt1 h1 → mt1.length ≤ T1.length + 1 → mt1 = (if k = 4 then (if 0 ∈ mt then mt else mt ++ [0]) else mt) → ∀ v', v' = tvl mt1 (k, p, 0) → aWP d 259 115 [(3, .int (rb (t p))), (2, .int (nI p)), (1, .int (nI p)), (0, .ref 59)] [.int v', .int (nI p), .int (nI k), .ref 59] h1 Q := by
      intro mt1 h1 k1 M1 tk1 hml hm1 v' hv'
      have s1 := (sm_k k1 m).1.1
      simp only [lv_args, z_v, z_lg, z_h, z_u, z_u1, z_c, z_ct, z_sk, sbne, lst1_d, ldel, lst2_d, ldel2, z_sw, z_rok, zi, eq_self, List.map_cons, List.map_nil, List.append_nil, List.nil_append, List.cons_append, Int32.reduceLT, Int32.reduceLE, Int32.reduceAdd, Int32.reduceSub, Int32.reduceMul, Int32.reduceToInt, Int32.reduceToNatClampNeg, Int.reduceLT, Int.reduceLE, Int.reduceNeg, true_and, and_true, or_self, or_false, false_or, false_and, and_false, true_or, or_true, if_true, if_false, ne_eq, Classical.not_not, not_true_eq_false, not_false_eq_true, true_implies, false_implies, implies_true, Nat.reduceEqDiff, Nat.reduceAdd, Nat.reduceLeDiff, Nat.reduceSub, reduceCtorEq, reduceIte, b259_115, skM s1, h00]
      refine sp_tok (k := k) (p := p) (v := 0) m k1 M1 tk1 (by omega) (by omega) (fun w => by omega) (fun w => by
        rw [hm1, if_pos w]
        by_cases c : 0 ∈ mt
        · rw [if_pos c]; exact c
        · rw [if_neg c]; simp) rfl rfl (fun _ => hv') (fun h2 k2 M2 TT2 => ?_)
      have s2 := (sm_k k2 m).1.1
      have G := next (p + 1) K mt1 (k, p, 0) h2 (by omega) ⟨k2, M2, TT2, by omega, by rw [lq]; omega, by rw [lq]; omega, by rw [lq]; omega⟩ (fun T2 K' mt' ⟨f, w⟩ => by
        refine ⟨f + 1, Or.inr ⟨hlt, ?_⟩⟩
        rcases hk with ⟨rfl, e⟩ | ⟨rfl, e⟩ | ⟨rfl, e⟩
        · rw [if_neg (by decide)] at hm1
          subst hm1
          exact Or.inr (Or.inr (Or.inr (Or.inr (Or.inl ⟨e, T2, rfl, w⟩))))
        · rw [if_neg (by decide)] at hm1
          subst hm1
          exact Or.inr (Or.inr (Or.inr (Or.inr (Or.inr (Or.inl ⟨e, T2, rfl, w⟩)))))
        · rw [if_pos rfl] at hm1
          subst hm1
          exact Or.inr (Or.inr (Or.inr (Or.inr (Or.inr (Or.inr (Or.inl ⟨e, T2, rfl, w⟩))))))) _ (Or.inr rfl)
      simp only [lv_args, z_v, z_lg, z_h, z_u, z_u1, z_c, z_ct, z_sk, sbne, lst1_d, ldel, lst2_d, ldel2, z_sw, z_rok, zi, eq_self, List.map_cons, List.map_nil, List.append_nil, List.nil_append, List.cons_append, Int32.reduceLT, Int32.reduceLE, Int32.reduceAdd, Int32.reduceSub, Int32.reduceMul, Int32.reduceToInt, Int32.reduceToNatClampNeg, Int.reduceLT, Int.reduceLE, Int.reduceNeg, true_and, and_true, or_self, or_false, false_or, false_and, and_false, true_or, or_true, if_true, if_false, ne_eq, Classical.not_not, not_true_eq_false, not_false_eq_true, true_implies, false_implies, implies_true, Nat.reduceEqDiff, Nat.reduceAdd, Nat.reduceLeDiff, Nat.reduceSub, reduceCtorEq, reduceIte, b259_115, skM s1, skM s2, Nat.reduceLT, nI_s]
      exact G
    simp only [lv_args, z_v, z_lg, z_h, z_u, z_u1, z_c, z_ct, z_sk, sbne, lst1_d, ldel, lst2_d, ldel2, z_sw, z_rok, zi, eq_self, List.map_cons, List.map_nil, List.append_nil, List.nil_append, List.cons_append, Int32.reduceLT, Int32.reduceLE, Int32.reduceAdd, Int32.reduceSub, Int32.reduceMul, Int32.reduceToInt, Int32.reduceToNatClampNeg, Int.reduceLT, Int.reduceLE, Int.reduceNeg, true_and, and_true, or_self, or_false, false_or, false_and, and_false, true_or, or_true, if_true, if_false, ne_eq, Classical.not_not, not_true_eq_false, not_false_eq_true, true_implies, false_implies, implies_true, Nat.reduceEqDiff, Nat.reduceAdd, Nat.reduceLeDiff, Nat.reduceSub, reduceCtorEq, reduceIte, b259_99, z39]
    rw [rb_eq (x4 p) (by decide)]
    refine ⟨fun c => ?_, fun c => ?_⟩
    · have hk4 : k ≠ 4 := by omega
      have G := tk0 mt h ky M tk (by omega) (by rw [if_neg hk4]) 0 (by
        unfold tvl
        dsimp only
        rw [if_neg (by omega), if_neg hk4])
      simp only [lv_args, z_v, z_lg, z_h, z_u, z_u1, z_c, z_ct, z_sk, sbne, lst1_d, ldel, lst2_d, ldel2, z_sw, z_rok, zi, eq_self, List.map_cons, List.map_nil, List.append_nil, List.nil_append, List.cons_append, Int32.reduceLT, Int32.reduceLE, Int32.reduceAdd, Int32.reduceSub, Int32.reduceMul, Int32.reduceToInt, Int32.reduceToNatClampNeg, Int.reduceLT, Int.reduceLE, Int.reduceNeg, true_and, and_true, or_self, or_false, false_or, false_and, and_false, true_or, or_true, if_true, if_false, ne_eq, Classical.not_not, not_true_eq_false, not_false_eq_true, true_implies, false_implies, implies_true, Nat.reduceEqDiff, Nat.reduceAdd, Nat.reduceLeDiff, Nat.reduceSub, reduceCtorEq, reduceIte, b259_114]
      exact G
    · have c : t p = 39 := by first | exact c | exact Classical.not_not.mp c
      have hk4 : k = 4 := by omega
      simp only [lv_args, z_v, z_lg, z_h, z_u, z_u1, z_c, z_ct, z_sk, sbne, lst1_d, ldel, lst2_d, ldel2, z_sw, z_rok, zi, eq_self, List.map_cons, List.map_nil, List.append_nil, List.nil_append, List.cons_append, Int32.reduceLT, Int32.reduceLE, Int32.reduceAdd, Int32.reduceSub, Int32.reduceMul, Int32.reduceToInt, Int32.reduceToNatClampNeg, Int.reduceLT, Int.reduceLE, Int.reduceNeg, true_and, and_true, or_self, or_false, false_or, false_and, and_false, true_or, or_true, if_true, if_false, ne_eq, Classical.not_not, not_true_eq_false, not_false_eq_true, true_implies, false_implies, implies_true, Nat.reduceEqDiff, Nat.reduceAdd, Nat.reduceLeDiff, Nat.reduceSub, reduceCtorEq, reduceIte, b259_106, skM s, h00]
      refine sp_wordName (j := 0) m ky M (by omega) (by decide) (by omega) (fun h1 k1 M1 a9 aT => ?_)
      have s1 := (sm_k k1 m).1.1
      have G := tk0 _ h1 k1 M1 (tkp_mt (i := 0) tk a9 aT) (by
        split
        · omega
        · rw [List.length_append, List.length_singleton]; omega) (by rw [if_pos hk4]) (nI ((if 0 ∈ mt then mt else mt ++ [0]).idxOf 0)) (by
        have hk8 : ¬ k = 8 := by omega
        unfold tvl
        dsimp only
        rw [if_neg hk8, if_pos hk4])
      simp only [lv_args, z_v, z_lg, z_h, z_u, z_u1, z_c, z_ct, z_sk, sbne, lst1_d, ldel, lst2_d, ldel2, z_sw, z_rok, zi, eq_self, List.map_cons, List.map_nil, List.append_nil, List.nil_append, List.cons_append, Int32.reduceLT, Int32.reduceLE, Int32.reduceAdd, Int32.reduceSub, Int32.reduceMul, Int32.reduceToInt, Int32.reduceToNatClampNeg, Int.reduceLT, Int.reduceLE, Int.reduceNeg, true_and, and_true, or_self, or_false, false_or, false_and, and_false, true_or, or_true, if_true, if_false, ne_eq, Classical.not_not, not_true_eq_false, not_false_eq_true, true_implies, false_implies, implies_true, Nat.reduceEqDiff, Nat.reduceAdd, Nat.reduceLeDiff, Nat.reduceSub, reduceCtorEq, reduceIte, b259_106, skM s, skM s1, Nat.reduceLT]
      exact G
  -- a word
  have wordG : t p ≠ 40 → t p ≠ 41 → t p ≠ 39 → ∀ L : ALS, (L = [(3, .int (rb (t p))), (2, .int (nI p)), (1, .int (nI (we t n p))), (0, .ref 59)] ∨ L = [(1, .int (nI (we t n p))), (3, .int (rb (t p))), (2, .int (nI p)), (0, .ref 59)]) → aWP d 259 150 L [] h Q := by
    intro g1 g2 g3
    obtain ⟨w1, w2, w3⟩ := we_rng (t := t) (n := n) (n - p) p (by omega)
    have esub : nI (we t n p) - nI p = nI (we t n p - p) := nI_sub w1
    -- behind the word
    have fin : ∀ (tkn : TK) (K1 : List KY) (mt1 : List Nat) (h1 : Hp), KS q h0 h1 → MTn t n K1 mt1 q h1 → TKp (T1 ++ [tkn]) mt1 h1 → (tkn.1 = 1 → (∃ f, Scn t n f p K mt [tkn] K1 mt1) ∧ K1.length ≤ 31 + T1.length) → (tkn.1 ≠ 1 → tkn.1 ≤ 8 ∧ p < we t n p ∧ mt1.length ≤ mt.length + 1 ∧ K1.length ≤ K.length + 1 ∧ ∀ T2 K' mt', (∃ f, Scn t n f (we t n p) K1 mt1 T2 K' mt') → ∃ f, Scn t n f p K mt (tkn :: T2) K' mt') → ∀ L : ALS, (L = [(3, .int (rb (t p))), (2, .int (nI p)), (1, .int (nI (we t n p))), (0, .ref 59)] ∨ L = [(1, .int (nI (we t n p))), (3, .int (rb (t p))), (2, .int (nI p)), (0, .ref 59)]) → aWP d 259 158 L [] h1 Q := by
      intro tkn K1 mt1 h1 k1 M1 tk1 f1 f2 L hL
      have mm := sm_k k1 m
      have s1 := mm.1.1
      have n62 : hN h1 62 = 3002 := mm.1.2.1.2 (62, 3002) (by decide)
      have e9 := tk1.1
      rw [lq] at e9
      have eg : (T1 ++ [tkn])[T1.length]? = some tkn := by simp
      obtain ⟨e62, _⟩ := tk1.2.1 _ _ eg
      have c4 : (T1.length < 3002) = True := eq_true (by omega)
      have em : nI (T1.length + 1) - 1 = nI T1.length := nI_m1 ..
      by_cases c1 : tkn.1 = 1
      · obtain ⟨f, l⟩ := f1 c1
        have P := hq [tkn] K1 mt1 h1 f k1 M1 tk1 (by rw [lq]; omega) (by rw [lq]; omega)
        rw [c1] at e62
        rcases hL with rfl | rfl
        all_goals
          simp only [lv_args, z_v, z_lg, z_h, z_u, z_u1, z_c, z_ct, z_sk, sbne, lst1_d, ldel, lst2_d, ldel2, z_sw, z_rok, zi, eq_self, List.map_cons, List.map_nil, List.append_nil, List.nil_append, List.cons_append, Int32.reduceLT, Int32.reduceLE, Int32.reduceAdd, Int32.reduceSub, Int32.reduceMul, Int32.reduceToInt, Int32.reduceToNatClampNeg, Int.reduceLT, Int.reduceLE, Int.reduceNeg, true_and, and_true, or_self, or_false, false_or, false_and, and_false, true_or, or_true, if_true, if_false, ne_eq, Classical.not_not, not_true_eq_false, not_false_eq_true, true_implies, false_implies, implies_true, Nat.reduceEqDiff, Nat.reduceAdd, Nat.reduceLeDiff, Nat.reduceSub, reduceCtorEq, reduceIte, b259_150, skM s1, srM s1, e9, em, n62]
          simp (disch := omega) only [nI_ti, nI_cl, le0N, ltNN, c4, e62, true_and, z1, not_true_eq_false, false_imp_iff, true_imp_iff]
          try simp only [lv_args, z_v, z_lg, z_h, z_u, z_u1, z_c, z_ct, z_sk, sbne, lst1_d, ldel, lst2_d, ldel2, z_sw, z_rok, zi, eq_self, List.map_cons, List.map_nil, List.append_nil, List.nil_append, List.cons_append, Int32.reduceLT, Int32.reduceLE, Int32.reduceAdd, Int32.reduceSub, Int32.reduceMul, Int32.reduceToInt, Int32.reduceToNatClampNeg, Int.reduceLT, Int.reduceLE, Int.reduceNeg, true_and, and_true, or_self, or_false, false_or, false_and, and_false, true_or, or_true, if_true, if_false, ne_eq, Classical.not_not, not_true_eq_false, not_false_eq_true, true_implies, false_implies, implies_true, Nat.reduceEqDiff, Nat.reduceAdd, Nat.reduceLeDiff, Nat.reduceSub, reduceCtorEq, reduceIte, b259_150]
          simp only [lv_args, z_v, z_lg, z_h, z_u, z_u1, z_c, z_ct, z_sk, sbne, lst1_d, ldel, lst2_d, ldel2, z_sw, z_rok, zi, eq_self, List.map_cons, List.map_nil, List.append_nil, List.nil_append, List.cons_append, Int32.reduceLT, Int32.reduceLE, Int32.reduceAdd, Int32.reduceSub, Int32.reduceMul, Int32.reduceToInt, Int32.reduceToNatClampNeg, Int.reduceLT, Int.reduceLE, Int.reduceNeg, true_and, and_true, or_self, or_false, false_or, false_and, and_false, true_or, or_true, if_true, if_false, ne_eq, Classical.not_not, not_true_eq_false, not_false_eq_true, true_implies, false_implies, implies_true, Nat.reduceEqDiff, Nat.reduceAdd, Nat.reduceLeDiff, Nat.reduceSub, reduceCtorEq, reduceIte, b259_173]
          exact P
      · obtain ⟨f8, f3, f4, f5, f6⟩ := f2 c1
        have ne : ¬ nI tkn.1 = nI 1 := by rw [nI_eqN (by omega) (by omega)]; exact c1
        have G := next (we t n p) K1 mt1 tkn h1 f3 ⟨k1, M1, tk1, w2, by rw [lq]; omega, by rw [lq]; omega, by rw [lq]; omega⟩ f6 L hL
        rcases hL with rfl | rfl
        all_goals
          simp only [lv_args, z_v, z_lg, z_h, z_u, z_u1, z_c, z_ct, z_sk, sbne, lst1_d, ldel, lst2_d, ldel2, z_sw, z_rok, zi, eq_self, List.map_cons, List.map_nil, List.append_nil, List.nil_append, List.cons_append, Int32.reduceLT, Int32.reduceLE, Int32.reduceAdd, Int32.reduceSub, Int32.reduceMul, Int32.reduceToInt, Int32.reduceToNatClampNeg, Int.reduceLT, Int.reduceLE, Int.reduceNeg, true_and, and_true, or_self, or_false, false_or, false_and, and_false, true_or, or_true, if_true, if_false, ne_eq, Classical.not_not, not_true_eq_false, not_false_eq_true, true_implies, false_implies, implies_true, Nat.reduceEqDiff, Nat.reduceAdd, Nat.reduceLeDiff, Nat.reduceSub, reduceCtorEq, reduceIte, b259_150, skM s1, srM s1, e9, em, n62]
          simp (disch := omega) only [nI_ti, nI_cl, le0N, ltNN, c4, e62, true_and, z1, ne, not_false_eq_true, false_imp_iff, true_imp_iff, and_true]
          try simp only [lv_args, z_v, z_lg, z_h, z_u, z_u1, z_c, z_ct, z_sk, sbne, lst1_d, ldel, lst2_d, ldel2, z_sw, z_rok, zi, eq_self, List.map_cons, List.map_nil, List.append_nil, List.nil_append, List.cons_append, Int32.reduceLT, Int32.reduceLE, Int32.reduceAdd, Int32.reduceSub, Int32.reduceMul, Int32.reduceToInt, Int32.reduceToNatClampNeg, Int.reduceLT, Int.reduceLE, Int.reduceNeg, true_and, and_true, or_self, or_false, false_or, false_and, and_false, true_or, or_true, if_true, if_false, ne_eq, Classical.not_not, not_true_eq_false, not_false_eq_true, true_implies, false_implies, implies_true, Nat.reduceEqDiff, Nat.reduceAdd, Nat.reduceLeDiff, Nat.reduceSub, reduceCtorEq, reduceIte, b259_150]
          exact G
    have call : ∀ L : ALS, (L = [(3, .int (rb (t p))), (2, .int (nI p)), (1, .int (nI (we t n p))), (0, .ref 59)] ∨ L = [(1, .int (nI (we t n p))), (3, .int (rb (t p))), (2, .int (nI p)), (0, .ref 59)]) → aEv (d - 1) 273 [.ref 59, .int (nI p), .int (nI (we t n p - p))] h (fun r h1 => r = none ∧ hv h1 = hv h ∧ aWP d 259 158 L [] h1 Q) := fun L hL => by
      refine sp_word m ky M tk (by omega) (by omega) (by omega) w1 w2 w3 (by omega) (fun hb h1 k1 M1 T1' => ⟨rfl, ?_, ?_⟩) (fun x v K1 mt1 hlt2 hx5 hx8 hg h1 k1 M1 T1' => ⟨rfl, ?_, ?_⟩)
      · rw [k1.1.2.2.2.2.2.1, ky.1.2.2.2.2.2.1]
      · refine fin (1, p, 0) K mt h1 k1 M1 T1' (fun _ => ⟨⟨1, Or.inr ⟨hlt, ?_⟩⟩, by omega⟩) (fun w => absurd rfl w) L hL
        rcases hb with hb | hb
        · have : isW (t p) = false := by
            cases hw : isW (t p)
            · rfl
            · rw [we_s hlt hw] at hb
              have := (we_rng (t := t) (n := n) (n - (p + 1)) (p + 1) (by omega)).1
              omega
          exact Or.inr (Or.inr (Or.inr (Or.inr (Or.inr (Or.inr (Or.inr ⟨nb, n59, this, g1, g2, g3, rfl⟩))))))
        · by_cases hw : isW (t p) = true
          · rw [we_s hlt hw] at hb
            exact Or.inr (Or.inr (Or.inl ⟨hw, hb, rfl⟩))
          · have : isW (t p) = false := by simpa using hw
            exact Or.inr (Or.inr (Or.inr (Or.inr (Or.inr (Or.inr (Or.inr ⟨nb, n59, this, g1, g2, g3, rfl⟩))))))
      · rw [k1.1.2.2.2.2.2.1, ky.1.2.2.2.2.2.1]
      · have hw := w3 p (Nat.le_refl _) hlt2
        have hg2 : WDg t p (we t n (p + 1)) K mt (tkK x) v K1 mt1 := by rw [← we_s hlt hw]; exact hg
        refine fin (x, p, v) K1 mt1 h1 k1 M1 T1' (fun w => ?_) (fun _ => ⟨hx8, hlt2, ?_, ?_, fun T2 K' mt' ⟨f, w⟩ => ⟨f + 1, Or.inr ⟨hlt, Or.inr (Or.inr (Or.inr (Or.inl ⟨hw, x, v, K1, mt1, T2, hx5, hx8, hg2, rfl, by rw [← we_s hlt hw]; exact w⟩)))⟩⟩⟩) L hL
        · have w : x = 1 := w
          omega
        · rcases hg with ⟨_, _, _, _, _, _, rfl⟩ | ⟨_, _, _, _, _, _, rfl⟩ | ⟨_, _, _, _, i, _, _, rfl⟩
          · omega
          · omega
          · split
            · omega
            · rw [List.length_append]; exact Nat.le_refl _
        · rcases hg with ⟨_, _, _, _, _, rfl, _⟩ | ⟨_, _, _, _, _, rfl, _⟩ | ⟨_, _, _, _, i, _, ⟨_, rfl⟩ | ⟨_, _, rfl⟩, _⟩
          · omega
          · omega
          · omega
          · rw [List.length_append]; exact Nat.le_refl _
    intro L hL
    have G := call L hL
    rcases hL with rfl | rfl
    all_goals
      simp only [lv_args, z_v, z_lg, z_h, z_u, z_u1, z_c, z_ct, z_sk, sbne, lst1_d, ldel, lst2_d, ldel2, z_sw, z_rok, zi, eq_self, List.map_cons, List.map_nil, List.append_nil, List.nil_append, List.cons_append, Int32.reduceLT, Int32.reduceLE, Int32.reduceAdd, Int32.reduceSub, Int32.reduceMul, Int32.reduceToInt, Int32.reduceToNatClampNeg, Int.reduceLT, Int.reduceLE, Int.reduceNeg, true_and, and_true, or_self, or_false, false_or, false_and, and_false, true_or, or_true, if_true, if_false, ne_eq, Classical.not_not, not_true_eq_false, not_false_eq_true, true_implies, false_implies, implies_true, Nat.reduceEqDiff, Nat.reduceAdd, Nat.reduceLeDiff, Nat.reduceSub, reduceCtorEq, reduceIte, b259_150, skM s, h00, esub]
      refine aEv_mono G (fun r h1 ⟨a, b, c⟩ => ?_)
      subst a
      exact ⟨rfl, Or.inl b, c⟩
  have wlB : t p ≠ 40 → t p ≠ 41 → t p ≠ 39 → ∀ (r i : Nat), i + r = n → we t n i = we t n p → aWP d 259 124 [(1, .int (nI i)), (3, .int (rb (t p))), (2, .int (nI p)), (0, .ref 59)] [] h Q := by
    intro g1 g2 g3 r
    induction r with
    | zero =>
      intro i hi he
      rw [we_0 (by omega)] at he
      have G := wordG g1 g2 g3 _ (Or.inr rfl)
      rw [← he] at G
      simp only [lv_args, z_v, z_lg, z_h, z_u, z_u1, z_c, z_ct, z_sk, sbne, lst1_d, ldel, lst2_d, ldel2, z_sw, z_rok, zi, eq_self, List.map_cons, List.map_nil, List.append_nil, List.nil_append, List.cons_append, Int32.reduceLT, Int32.reduceLE, Int32.reduceAdd, Int32.reduceSub, Int32.reduceMul, Int32.reduceToInt, Int32.reduceToNatClampNeg, Int.reduceLT, Int.reduceLE, Int.reduceNeg, true_and, and_true, or_self, or_false, false_or, false_and, and_false, true_or, or_true, if_true, if_false, ne_eq, Classical.not_not, not_true_eq_false, not_false_eq_true, true_implies, false_implies, implies_true, Nat.reduceEqDiff, Nat.reduceAdd, Nat.reduceLeDiff, Nat.reduceSub, reduceCtorEq, reduceIte, b259_124, skM s, x1]
      simp (disch := omega) only [nI_leN]
      exact ⟨fun _ => G, fun c => absurd (by omega) c⟩
    | succ r ih2 =>
      intro i hi he
      have c4 : (i < 3000) = True := eq_true (by omega)
      have e4 := x3 i (by omega)
      simp only [lv_args, z_v, z_lg, z_h, z_u, z_u1, z_c, z_ct, z_sk, sbne, lst1_d, ldel, lst2_d, ldel2, z_sw, z_rok, zi, eq_self, List.map_cons, List.map_nil, List.append_nil, List.nil_append, List.cons_append, Int32.reduceLT, Int32.reduceLE, Int32.reduceAdd, Int32.reduceSub, Int32.reduceMul, Int32.reduceToInt, Int32.reduceToNatClampNeg, Int.reduceLT, Int.reduceLE, Int.reduceNeg, true_and, and_true, or_self, or_false, false_or, false_and, and_false, true_or, or_true, if_true, if_false, ne_eq, Classical.not_not, not_true_eq_false, not_false_eq_true, true_implies, false_implies, implies_true, Nat.reduceEqDiff, Nat.reduceAdd, Nat.reduceLeDiff, Nat.reduceSub, reduceCtorEq, reduceIte, b259_124, skM s, x1]
      simp (disch := omega) only [nI_leN]
      refine ⟨fun c => absurd c (by omega), fun _ => ?_⟩
      simp only [lv_args, z_v, z_lg, z_h, z_u, z_u1, z_c, z_ct, z_sk, sbne, lst1_d, ldel, lst2_d, ldel2, z_sw, z_rok, zi, eq_self, List.map_cons, List.map_nil, List.append_nil, List.nil_append, List.cons_append, Int32.reduceLT, Int32.reduceLE, Int32.reduceAdd, Int32.reduceSub, Int32.reduceMul, Int32.reduceToInt, Int32.reduceToNatClampNeg, Int.reduceLT, Int.reduceLE, Int.reduceNeg, true_and, and_true, or_self, or_false, false_or, false_and, and_false, true_or, or_true, if_true, if_false, ne_eq, Classical.not_not, not_true_eq_false, not_false_eq_true, true_implies, false_implies, implies_true, Nat.reduceEqDiff, Nat.reduceAdd, Nat.reduceLeDiff, Nat.reduceSub, reduceCtorEq, reduceIte, b259_132, skM s, srM s, n61, h00]
      simp (disch := omega) only [nI_ti, nI_cl, le0N, ltNN, c4, e4, true_and]
      try simp only [lv_args, z_v, z_lg, z_h, z_u, z_u1, z_c, z_ct, z_sk, sbne, lst1_d, ldel, lst2_d, ldel2, z_sw, z_rok, zi, eq_self, List.map_cons, List.map_nil, List.append_nil, List.nil_append, List.cons_append, Int32.reduceLT, Int32.reduceLE, Int32.reduceAdd, Int32.reduceSub, Int32.reduceMul, Int32.reduceToInt, Int32.reduceToNatClampNeg, Int.reduceLT, Int.reduceLE, Int.reduceNeg, true_and, and_true, or_self, or_false, false_or, false_and, and_false, true_or, or_true, if_true, if_false, ne_eq, Classical.not_not, not_true_eq_false, not_false_eq_true, true_implies, false_implies, implies_true, Nat.reduceEqDiff, Nat.reduceAdd, Nat.reduceLeDiff, Nat.reduceSub, reduceCtorEq, reduceIte, b259_132, h00]
      refine sp_isWm (x4 i) (by omega) ?_
      simp only [lv_args, z_v, z_lg, z_h, z_u, z_u1, z_c, z_ct, z_sk, sbne, lst1_d, ldel, lst2_d, ldel2, z_sw, z_rok, zi, eq_self, List.map_cons, List.map_nil, List.append_nil, List.nil_append, List.cons_append, Int32.reduceLT, Int32.reduceLE, Int32.reduceAdd, Int32.reduceSub, Int32.reduceMul, Int32.reduceToInt, Int32.reduceToNatClampNeg, Int.reduceLT, Int.reduceLE, Int.reduceNeg, true_and, and_true, or_self, or_false, false_or, false_and, and_false, true_or, or_true, if_true, if_false, ne_eq, Classical.not_not, not_true_eq_false, not_false_eq_true, true_implies, false_implies, implies_true, Nat.reduceEqDiff, Nat.reduceAdd, Nat.reduceLeDiff, Nat.reduceSub, reduceCtorEq, reduceIte, b259_132, Nat.reduceLT]
      by_cases cw : isW (t i) = true
      · have G := ih2 (i + 1) (by omega) (by rw [← we_s (by omega) cw]; exact he)
        rw [cw, eb1]
        simp only [z10, not_false_eq_true, not_true_eq_false, true_imp_iff, false_imp_iff, and_true, true_and]
        simp only [lv_args, z_v, z_lg, z_h, z_u, z_u1, z_c, z_ct, z_sk, sbne, lst1_d, ldel, lst2_d, ldel2, z_sw, z_rok, zi, eq_self, List.map_cons, List.map_nil, List.append_nil, List.nil_append, List.cons_append, Int32.reduceLT, Int32.reduceLE, Int32.reduceAdd, Int32.reduceSub, Int32.reduceMul, Int32.reduceToInt, Int32.reduceToNatClampNeg, Int.reduceLT, Int.reduceLE, Int.reduceNeg, true_and, and_true, or_self, or_false, false_or, false_and, and_false, true_or, or_true, if_true, if_false, ne_eq, Classical.not_not, not_true_eq_false, not_false_eq_true, true_implies, false_implies, implies_true, Nat.reduceEqDiff, Nat.reduceAdd, Nat.reduceLeDiff, Nat.reduceSub, reduceCtorEq, reduceIte, b259_144, nI_s]
        exact G
      · have cw : isW (t i) = false := by simpa using cw
        rw [we_0 (fun w => by rw [cw] at w; cases w.2)] at he
        have G := wordG g1 g2 g3 _ (Or.inr rfl)
        rw [← he] at G
        rw [cw, eb0]
        simp only [not_false_eq_true, not_true_eq_false, true_imp_iff, false_imp_iff, and_true, true_and]
        exact G
  have wlA : t p ≠ 40 → t p ≠ 41 → t p ≠ 39 → aWP d 259 124 [(3, .int (rb (t p))), (2, .int (nI p)), (1, .int (nI p)), (0, .ref 59)] [] h Q := by
    intro g1 g2 g3
    simp only [lv_args, z_v, z_lg, z_h, z_u, z_u1, z_c, z_ct, z_sk, sbne, lst1_d, ldel, lst2_d, ldel2, z_sw, z_rok, zi, eq_self, List.map_cons, List.map_nil, List.append_nil, List.nil_append, List.cons_append, Int32.reduceLT, Int32.reduceLE, Int32.reduceAdd, Int32.reduceSub, Int32.reduceMul, Int32.reduceToInt, Int32.reduceToNatClampNeg, Int.reduceLT, Int.reduceLE, Int.reduceNeg, true_and, and_true, or_self, or_false, false_or, false_and, and_false, true_or, or_true, if_true, if_false, ne_eq, Classical.not_not, not_true_eq_false, not_false_eq_true, true_implies, false_implies, implies_true, Nat.reduceEqDiff, Nat.reduceAdd, Nat.reduceLeDiff, Nat.reduceSub, reduceCtorEq, reduceIte, b259_124, skM s, x1]
    simp (disch := omega) only [nI_leN]
    refine ⟨fun c => absurd c (by omega), fun _ => ?_⟩
    simp only [lv_args, z_v, z_lg, z_h, z_u, z_u1, z_c, z_ct, z_sk, sbne, lst1_d, ldel, lst2_d, ldel2, z_sw, z_rok, zi, eq_self, List.map_cons, List.map_nil, List.append_nil, List.nil_append, List.cons_append, Int32.reduceLT, Int32.reduceLE, Int32.reduceAdd, Int32.reduceSub, Int32.reduceMul, Int32.reduceToInt, Int32.reduceToNatClampNeg, Int.reduceLT, Int.reduceLE, Int.reduceNeg, true_and, and_true, or_self, or_false, false_or, false_and, and_false, true_or, or_true, if_true, if_false, ne_eq, Classical.not_not, not_true_eq_false, not_false_eq_true, true_implies, false_implies, implies_true, Nat.reduceEqDiff, Nat.reduceAdd, Nat.reduceLeDiff, Nat.reduceSub, reduceCtorEq, reduceIte, b259_132, skM s, srM s, n61, h00]
    simp (disch := omega) only [nI_ti, nI_cl, le0N, ltNN, c3, ep, true_and]
    try simp only [lv_args, z_v, z_lg, z_h, z_u, z_u1, z_c, z_ct, z_sk, sbne, lst1_d, ldel, lst2_d, ldel2, z_sw, z_rok, zi, eq_self, List.map_cons, List.map_nil, List.append_nil, List.nil_append, List.cons_append, Int32.reduceLT, Int32.reduceLE, Int32.reduceAdd, Int32.reduceSub, Int32.reduceMul, Int32.reduceToInt, Int32.reduceToNatClampNeg, Int.reduceLT, Int.reduceLE, Int.reduceNeg, true_and, and_true, or_self, or_false, false_or, false_and, and_false, true_or, or_true, if_true, if_false, ne_eq, Classical.not_not, not_true_eq_false, not_false_eq_true, true_implies, false_implies, implies_true, Nat.reduceEqDiff, Nat.reduceAdd, Nat.reduceLeDiff, Nat.reduceSub, reduceCtorEq, reduceIte, b259_132, h00]
    refine sp_isWm (x4 p) (by omega) ?_
    simp only [lv_args, z_v, z_lg, z_h, z_u, z_u1, z_c, z_ct, z_sk, sbne, lst1_d, ldel, lst2_d, ldel2, z_sw, z_rok, zi, eq_self, List.map_cons, List.map_nil, List.append_nil, List.nil_append, List.cons_append, Int32.reduceLT, Int32.reduceLE, Int32.reduceAdd, Int32.reduceSub, Int32.reduceMul, Int32.reduceToInt, Int32.reduceToNatClampNeg, Int.reduceLT, Int.reduceLE, Int.reduceNeg, true_and, and_true, or_self, or_false, false_or, false_and, and_false, true_or, or_true, if_true, if_false, ne_eq, Classical.not_not, not_true_eq_false, not_false_eq_true, true_implies, false_implies, implies_true, Nat.reduceEqDiff, Nat.reduceAdd, Nat.reduceLeDiff, Nat.reduceSub, reduceCtorEq, reduceIte, b259_132, Nat.reduceLT]
    by_cases cw : isW (t p) = true
    · have G := wlB g1 g2 g3 (n - (p + 1)) (p + 1) (by omega) (we_s hlt cw).symm
      rw [cw, eb1]
      simp only [z10, not_false_eq_true, not_true_eq_false, true_imp_iff, false_imp_iff, and_true, true_and]
      simp only [lv_args, z_v, z_lg, z_h, z_u, z_u1, z_c, z_ct, z_sk, sbne, lst1_d, ldel, lst2_d, ldel2, z_sw, z_rok, zi, eq_self, List.map_cons, List.map_nil, List.append_nil, List.nil_append, List.cons_append, Int32.reduceLT, Int32.reduceLE, Int32.reduceAdd, Int32.reduceSub, Int32.reduceMul, Int32.reduceToInt, Int32.reduceToNatClampNeg, Int.reduceLT, Int.reduceLE, Int.reduceNeg, true_and, and_true, or_self, or_false, false_or, false_and, and_false, true_or, or_true, if_true, if_false, ne_eq, Classical.not_not, not_true_eq_false, not_false_eq_true, true_implies, false_implies, implies_true, Nat.reduceEqDiff, Nat.reduceAdd, Nat.reduceLeDiff, Nat.reduceSub, reduceCtorEq, reduceIte, b259_144, nI_s]
      exact G
    · have cw : isW (t p) = false := by simpa using cw
      have G := wordG g1 g2 g3 _ (Or.inl rfl)
      rw [we_0 (fun w => by rw [cw] at w; cases w.2)] at G
      rw [cw, eb0]
      simp only [not_false_eq_true, not_true_eq_false, true_imp_iff, false_imp_iff, and_true, true_and]
      exact G
  have at77 : (t p = 40 ∨ t p = 41 ∨ t p = 39) → aWP d 259 77 [(3, .int (rb (t p))), (2, .int (nI p)), (1, .int (nI p)), (0, .ref 59)] [] h Q := by
    intro hc
    simp only [lv_args, z_v, z_lg, z_h, z_u, z_u1, z_c, z_ct, z_sk, sbne, lst1_d, ldel, lst2_d, ldel2, z_sw, z_rok, zi, eq_self, List.map_cons, List.map_nil, List.append_nil, List.nil_append, List.cons_append, Int32.reduceLT, Int32.reduceLE, Int32.reduceAdd, Int32.reduceSub, Int32.reduceMul, Int32.reduceToInt, Int32.reduceToNatClampNeg, Int.reduceLT, Int.reduceLE, Int.reduceNeg, true_and, and_true, or_self, or_false, false_or, false_and, and_false, true_or, or_true, if_true, if_false, ne_eq, Classical.not_not, not_true_eq_false, not_false_eq_true, true_implies, false_implies, implies_true, Nat.reduceEqDiff, Nat.reduceAdd, Nat.reduceLeDiff, Nat.reduceSub, reduceCtorEq, reduceIte, b259_77, z40]
    rw [rb_eq (x4 p) (by decide)]
    refine ⟨fun c => ?_, fun c => ?_⟩
    · simp only [lv_args, z_v, z_lg, z_h, z_u, z_u1, z_c, z_ct, z_sk, sbne, lst1_d, ldel, lst2_d, ldel2, z_sw, z_rok, zi, eq_self, List.map_cons, List.map_nil, List.append_nil, List.nil_append, List.cons_append, Int32.reduceLT, Int32.reduceLE, Int32.reduceAdd, Int32.reduceSub, Int32.reduceMul, Int32.reduceToInt, Int32.reduceToNatClampNeg, Int.reduceLT, Int.reduceLE, Int.reduceNeg, true_and, and_true, or_self, or_false, false_or, false_and, and_false, true_or, or_true, if_true, if_false, ne_eq, Classical.not_not, not_true_eq_false, not_false_eq_true, true_implies, false_implies, implies_true, Nat.reduceEqDiff, Nat.reduceAdd, Nat.reduceLeDiff, Nat.reduceSub, reduceCtorEq, reduceIte, b259_88, z41]
      rw [rb_eq (x4 p) (by decide)]
      refine ⟨fun c5 => ?_, fun c5 => ?_⟩
      · have G := sign 4 (Or.inr (Or.inr ⟨rfl, by omega⟩)) _ rfl
        simp only [lv_args, z_v, z_lg, z_h, z_u, z_u1, z_c, z_ct, z_sk, sbne, lst1_d, ldel, lst2_d, ldel2, z_sw, z_rok, zi, eq_self, List.map_cons, List.map_nil, List.append_nil, List.nil_append, List.cons_append, Int32.reduceLT, Int32.reduceLE, Int32.reduceAdd, Int32.reduceSub, Int32.reduceMul, Int32.reduceToInt, Int32.reduceToNatClampNeg, Int.reduceLT, Int.reduceLE, Int.reduceNeg, true_and, and_true, or_self, or_false, false_or, false_and, and_false, true_or, or_true, if_true, if_false, ne_eq, Classical.not_not, not_true_eq_false, not_false_eq_true, true_implies, false_implies, implies_true, Nat.reduceEqDiff, Nat.reduceAdd, Nat.reduceLeDiff, Nat.reduceSub, reduceCtorEq, reduceIte, b259_98, z4]
        exact G
      · have c5 : t p = 41 := by first | exact c5 | exact Classical.not_not.mp c5
        have G := sign 3 (Or.inr (Or.inl ⟨rfl, c5⟩)) _ rfl
        simp only [lv_args, z_v, z_lg, z_h, z_u, z_u1, z_c, z_ct, z_sk, sbne, lst1_d, ldel, lst2_d, ldel2, z_sw, z_rok, zi, eq_self, List.map_cons, List.map_nil, List.append_nil, List.nil_append, List.cons_append, Int32.reduceLT, Int32.reduceLE, Int32.reduceAdd, Int32.reduceSub, Int32.reduceMul, Int32.reduceToInt, Int32.reduceToNatClampNeg, Int.reduceLT, Int.reduceLE, Int.reduceNeg, true_and, and_true, or_self, or_false, false_or, false_and, and_false, true_or, or_true, if_true, if_false, ne_eq, Classical.not_not, not_true_eq_false, not_false_eq_true, true_implies, false_implies, implies_true, Nat.reduceEqDiff, Nat.reduceAdd, Nat.reduceLeDiff, Nat.reduceSub, reduceCtorEq, reduceIte, b259_94, z3]
        exact G
    · have c : t p = 40 := by first | exact c | exact Classical.not_not.mp c
      have G := sign 2 (Or.inl ⟨rfl, c⟩) _ rfl
      simp only [lv_args, z_v, z_lg, z_h, z_u, z_u1, z_c, z_ct, z_sk, sbne, lst1_d, ldel, lst2_d, ldel2, z_sw, z_rok, zi, eq_self, List.map_cons, List.map_nil, List.append_nil, List.nil_append, List.cons_append, Int32.reduceLT, Int32.reduceLE, Int32.reduceAdd, Int32.reduceSub, Int32.reduceMul, Int32.reduceToInt, Int32.reduceToNatClampNeg, Int.reduceLT, Int.reduceLE, Int.reduceNeg, true_and, and_true, or_self, or_false, false_or, false_and, and_false, true_or, or_true, if_true, if_false, ne_eq, Classical.not_not, not_true_eq_false, not_false_eq_true, true_implies, false_implies, implies_true, Nat.reduceEqDiff, Nat.reduceAdd, Nat.reduceLeDiff, Nat.reduceSub, reduceCtorEq, reduceIte, b259_84, z2]
      exact G
  have at50 : aWP d 259 59 [(3, .int (rb (t p))), (2, .int (nI p)), (1, .int (nI p)), (0, .ref 59)] [] h Q := by
    simp only [lv_args, z_v, z_lg, z_h, z_u, z_u1, z_c, z_ct, z_sk, sbne, lst1_d, ldel, lst2_d, ldel2, z_sw, z_rok, zi, eq_self, List.map_cons, List.map_nil, List.append_nil, List.nil_append, List.cons_append, Int32.reduceLT, Int32.reduceLE, Int32.reduceAdd, Int32.reduceSub, Int32.reduceMul, Int32.reduceToInt, Int32.reduceToNatClampNeg, Int.reduceLT, Int.reduceLE, Int.reduceNeg, true_and, and_true, or_self, or_false, false_or, false_and, and_false, true_or, or_true, if_true, if_false, ne_eq, Classical.not_not, not_true_eq_false, not_false_eq_true, true_implies, false_implies, implies_true, Nat.reduceEqDiff, Nat.reduceAdd, Nat.reduceLeDiff, Nat.reduceSub, reduceCtorEq, reduceIte, b259_50, z40]
    rw [rb_eq (x4 p) (by decide)]
    refine ⟨fun c => at77 (Or.inl c), fun c40 => ?_⟩
    simp only [lv_args, z_v, z_lg, z_h, z_u, z_u1, z_c, z_ct, z_sk, sbne, lst1_d, ldel, lst2_d, ldel2, z_sw, z_rok, zi, eq_self, List.map_cons, List.map_nil, List.append_nil, List.nil_append, List.cons_append, Int32.reduceLT, Int32.reduceLE, Int32.reduceAdd, Int32.reduceSub, Int32.reduceMul, Int32.reduceToInt, Int32.reduceToNatClampNeg, Int.reduceLT, Int.reduceLE, Int.reduceNeg, true_and, and_true, or_self, or_false, false_or, false_and, and_false, true_or, or_true, if_true, if_false, ne_eq, Classical.not_not, not_true_eq_false, not_false_eq_true, true_implies, false_implies, implies_true, Nat.reduceEqDiff, Nat.reduceAdd, Nat.reduceLeDiff, Nat.reduceSub, reduceCtorEq, reduceIte, b259_65, z41]
    rw [rb_eq (x4 p) (by decide)]
    refine ⟨fun c => at77 (Or.inr (Or.inl c)), fun c41 => ?_⟩
    simp only [lv_args, z_v, z_lg, z_h, z_u, z_u1, z_c, z_ct, z_sk, sbne, lst1_d, ldel, lst2_d, ldel2, z_sw, z_rok, zi, eq_self, List.map_cons, List.map_nil, List.append_nil, List.nil_append, List.cons_append, Int32.reduceLT, Int32.reduceLE, Int32.reduceAdd, Int32.reduceSub, Int32.reduceMul, Int32.reduceToInt, Int32.reduceToNatClampNeg, Int.reduceLT, Int.reduceLE, Int.reduceNeg, true_and, and_true, or_self, or_false, false_or, false_and, and_false, true_or, or_true, if_true, if_false, ne_eq, Classical.not_not, not_true_eq_false, not_false_eq_true, true_implies, false_implies, implies_true, Nat.reduceEqDiff, Nat.reduceAdd, Nat.reduceLeDiff, Nat.reduceSub, reduceCtorEq, reduceIte, b259_71, z39]
    rw [rb_eq (x4 p) (by decide)]
    refine ⟨fun c => wlA c40 c41 c, fun c => at77 (Or.inr (Or.inr (by first | exact c | exact Classical.not_not.mp c)))⟩
  rcases hT with rfl | ⟨x, y, rfl⟩
  all_goals
    simp only [List.nil_append, List.cons_append]
    simp only [lv_args, z_v, z_lg, z_h, z_u, z_u1, z_c, z_ct, z_sk, sbne, lst1_d, ldel, lst2_d, ldel2, z_sw, z_rok, zi, eq_self, List.map_cons, List.map_nil, List.append_nil, List.nil_append, List.cons_append, Int32.reduceLT, Int32.reduceLE, Int32.reduceAdd, Int32.reduceSub, Int32.reduceMul, Int32.reduceToInt, Int32.reduceToNatClampNeg, Int.reduceLT, Int.reduceLE, Int.reduceNeg, true_and, and_true, or_self, or_false, false_or, false_and, and_false, true_or, or_true, if_true, if_false, ne_eq, Classical.not_not, not_true_eq_false, not_false_eq_true, true_implies, false_implies, implies_true, Nat.reduceEqDiff, Nat.reduceAdd, Nat.reduceLeDiff, Nat.reduceSub, reduceCtorEq, reduceIte, b259_42, skM s, x1]
    simp (disch := omega) only [nI_leN]
    refine ⟨fun c => absurd c (by omega), fun _ => ?_⟩
    simp only [lv_args, z_v, z_lg, z_h, z_u, z_u1, z_c, z_ct, z_sk, sbne, lst1_d, ldel, lst2_d, ldel2, z_sw, z_rok, zi, eq_self, List.map_cons, List.map_nil, List.append_nil, List.nil_append, List.cons_append, Int32.reduceLT, Int32.reduceLE, Int32.reduceAdd, Int32.reduceSub, Int32.reduceMul, Int32.reduceToInt, Int32.reduceToNatClampNeg, Int.reduceLT, Int.reduceLE, Int.reduceNeg, true_and, and_true, or_self, or_false, false_or, false_and, and_false, true_or, or_true, if_true, if_false, ne_eq, Classical.not_not, not_true_eq_false, not_false_eq_true, true_implies, false_implies, implies_true, Nat.reduceEqDiff, Nat.reduceAdd, Nat.reduceLeDiff, Nat.reduceSub, reduceCtorEq, reduceIte, b259_50, skM s, srM s, n61]
    simp (disch := omega) only [nI_ti, nI_cl, le0N, ltNN, c3, ep, true_and]
    try simp only [lv_args, z_v, z_lg, z_h, z_u, z_u1, z_c, z_ct, z_sk, sbne, lst1_d, ldel, lst2_d, ldel2, z_sw, z_rok, zi, eq_self, List.map_cons, List.map_nil, List.append_nil, List.nil_append, List.cons_append, Int32.reduceLT, Int32.reduceLE, Int32.reduceAdd, Int32.reduceSub, Int32.reduceMul, Int32.reduceToInt, Int32.reduceToNatClampNeg, Int.reduceLT, Int.reduceLE, Int.reduceNeg, true_and, and_true, or_self, or_false, false_or, false_and, and_false, true_or, or_true, if_true, if_false, ne_eq, Classical.not_not, not_true_eq_false, not_false_eq_true, true_implies, false_implies, implies_true, Nat.reduceEqDiff, Nat.reduceAdd, Nat.reduceLeDiff, Nat.reduceSub, reduceCtorEq, reduceIte, b259_50]
    simp only [lv_args, z_v, z_lg, z_h, z_u, z_u1, z_c, z_ct, z_sk, sbne, lst1_d, ldel, lst2_d, ldel2, z_sw, z_rok, zi, eq_self, List.map_cons, List.map_nil, List.append_nil, List.nil_append, List.cons_append, Int32.reduceLT, Int32.reduceLE, Int32.reduceAdd, Int32.reduceSub, Int32.reduceMul, Int32.reduceToInt, Int32.reduceToNatClampNeg, Int.reduceLT, Int.reduceLE, Int.reduceNeg, true_and, and_true, or_self, or_false, false_or, false_and, and_false, true_or, or_true, if_true, if_false, ne_eq, Classical.not_not, not_true_eq_false, not_false_eq_true, true_implies, false_implies, implies_true, Nat.reduceEqDiff, Nat.reduceAdd, Nat.reduceLeDiff, Nat.reduceSub, reduceCtorEq, reduceIte, b259_50] at at50
    exact at50
/-- the text becomes tokens -/
theorem sp_scans (m : SMt t n q h0) (e1 : hI h0 q 1 = 0) (hd : 120 < d) (hq : ∀ T K mt h', (∃ f, Scn t n f 0 K30 [] T K mt) → KS q h0 h' → MTn t n K mt q h' → TKp T mt h' → T.length ≤ 3001 → K.length ≤ 30 + T.length → Q none h') : aEv d 259 [.ref 59] h0 Q := by
  have h00 : 0 < d := by omega
  have hq66 := sm_q m
  have s0 := m.1.1
  have x2 := m.2.2.2.1
  have ky0 : KS q h0 (pI h0 59 9 0) := ks_I ⟨⟨rfl, rfl, rfl, rfl, rfl, rfl, rfl, rfl⟩, fun _ _ _ => rfl, fun _ _ => rfl⟩ (by omega)
  have copy : ∀ (r i : Nat) (h : Hp), i + r = n → KS q h0 h → hI h 59 9 = 0 → hI h q 1 = 0 → (∀ j, j < i → hA h (q + 13) j = rb (t j)) → aWP d 259 7 [(1, .int (nI i)), (0, .ref 59)] [] h Q := by
    intro r
    induction r with
    | zero =>
      intro i h hi ky i9 i1 hc
      have hi : i = n := hi
      subst hi
      have m1 := sm_k ky m
      have s := m1.1.1
      have x1 := m1.2.2.1
      simp only [lv_args, z_v, z_lg, z_h, z_u, z_u1, z_c, z_ct, z_sk, sbne, lst1_d, ldel, lst2_d, ldel2, z_sw, z_rok, zi, eq_self, List.map_cons, List.map_nil, List.append_nil, List.nil_append, List.cons_append, Int32.reduceLT, Int32.reduceLE, Int32.reduceAdd, Int32.reduceSub, Int32.reduceMul, Int32.reduceToInt, Int32.reduceToNatClampNeg, Int.reduceLT, Int.reduceLE, Int.reduceNeg, true_and, and_true, or_self, or_false, false_or, false_and, and_false, true_or, or_true, if_true, if_false, ne_eq, Classical.not_not, not_true_eq_false, not_false_eq_true, true_implies, false_implies, implies_true, Nat.reduceEqDiff, Nat.reduceAdd, Nat.reduceLeDiff, Nat.reduceSub, reduceCtorEq, reduceIte, b259_7, skM s, x1]
      simp (disch := omega) only [nI_leN]
      refine ⟨fun _ => ?_, fun c => absurd (Nat.le_refl _) c⟩
      have z0 : (0 : Int32) = nI 0 := rfl
      simp only [lv_args, z_v, z_lg, z_h, z_u, z_u1, z_c, z_ct, z_sk, sbne, lst1_d, ldel, lst2_d, ldel2, z_sw, z_rok, zi, eq_self, List.map_cons, List.map_nil, List.append_nil, List.nil_append, List.cons_append, Int32.reduceLT, Int32.reduceLE, Int32.reduceAdd, Int32.reduceSub, Int32.reduceMul, Int32.reduceToInt, Int32.reduceToNatClampNeg, Int.reduceLT, Int.reduceLE, Int.reduceNeg, true_and, and_true, or_self, or_false, false_or, false_and, and_false, true_or, or_true, if_true, if_false, ne_eq, Classical.not_not, not_true_eq_false, not_false_eq_true, true_implies, false_implies, implies_true, Nat.reduceEqDiff, Nat.reduceAdd, Nat.reduceLeDiff, Nat.reduceSub, reduceCtorEq, reduceIte, b259_36, skM s, h00, z0]
      refine sp_blanks s m1.1.2 m1.2.2 (Nat.zero_le _) (by omega) (fun p' b1 b2 b3 b4 => ?_)
      have nd30 : K30.Nodup := by decide +kernel
      have G := sp_scanL (Q := Q) m (by omega : 100 < d) (i - p') p' K30 [] [] h [] (by omega) (Or.inl rfl) ⟨ky, ⟨⟨i1, Nat.zero_le _, List.nodup_nil⟩, fun k j hk => (by cases hk), hc, nd30, fun j _ => rfl, by rw [k30_len.2.2.2]; exact Nat.le_refl _⟩, ⟨i9, fun j x hx => (by cases hx), fun x hx => (by cases hx)⟩, b4, Nat.zero_le _, Nat.le_refl _, by rw [k30_len.2.2.2]; exact Nat.le_refl _⟩ b2 (fun T2 K' mt' h' f k' M' T' l1 l2 => hq T2 K' mt' h' (b1 K30 [] T2 K' mt' f) k' M' T' l1 l2)
      simp only [List.nil_append, List.cons_append] at G
      simp only [lv_args, z_v, z_lg, z_h, z_u, z_u1, z_c, z_ct, z_sk, sbne, lst1_d, ldel, lst2_d, ldel2, z_sw, z_rok, zi, eq_self, List.map_cons, List.map_nil, List.append_nil, List.nil_append, List.cons_append, Int32.reduceLT, Int32.reduceLE, Int32.reduceAdd, Int32.reduceSub, Int32.reduceMul, Int32.reduceToInt, Int32.reduceToNatClampNeg, Int.reduceLT, Int.reduceLE, Int.reduceNeg, true_and, and_true, or_self, or_false, false_or, false_and, and_false, true_or, or_true, if_true, if_false, ne_eq, Classical.not_not, not_true_eq_false, not_false_eq_true, true_implies, false_implies, implies_true, Nat.reduceEqDiff, Nat.reduceAdd, Nat.reduceLeDiff, Nat.reduceSub, reduceCtorEq, reduceIte, b259_36, skM s, Nat.reduceLT]
      exact G
    | succ r ih =>
      intro i h hi ky i9 i1 hc
      have m1 := sm_k ky m
      have s := m1.1.1
      have R := sm_R m1
      obtain ⟨x1, _, x3, x4⟩ := m1.2.2
      have nn := nq m1.1.2 hq66
      have n61 : hN h 61 = 3000 := m1.1.2.1.2 (61, 3000) (by decide)
      have c4 : (i < 3000) = True := eq_true (by omega)
      have e4 := x3 i (by omega)
      simp only [lv_args, z_v, z_lg, z_h, z_u, z_u1, z_c, z_ct, z_sk, sbne, lst1_d, ldel, lst2_d, ldel2, z_sw, z_rok, zi, eq_self, List.map_cons, List.map_nil, List.append_nil, List.nil_append, List.cons_append, Int32.reduceLT, Int32.reduceLE, Int32.reduceAdd, Int32.reduceSub, Int32.reduceMul, Int32.reduceToInt, Int32.reduceToNatClampNeg, Int.reduceLT, Int.reduceLE, Int.reduceNeg, true_and, and_true, or_self, or_false, false_or, false_and, and_false, true_or, or_true, if_true, if_false, ne_eq, Classical.not_not, not_true_eq_false, not_false_eq_true, true_implies, false_implies, implies_true, Nat.reduceEqDiff, Nat.reduceAdd, Nat.reduceLeDiff, Nat.reduceSub, reduceCtorEq, reduceIte, b259_7, skM s, x1]
      simp (disch := omega) only [nI_leN]
      refine ⟨fun c => absurd c (by omega), fun _ => ?_⟩
      rcases hq66 with rfl | rfl
      · have n13 : hN h 79 = 3000 := nn.2.2.2.2.2.2.2.2.2.2.2.2.1
        have G := ih (i + 1) (pA h 79 (upd (hA h 79) i (rb (t i)))) (by omega) (ks_A ky (by omega)) i9 i1 (fun j hj => by
          show upd (hA h 79) i (rb (t i)) j = _
          unfold upd
          by_cases cj : j = i
          · rw [if_pos cj, cj]
          · rw [if_neg cj]
            exact hc j (by omega))
        simp only [lv_args, z_v, z_lg, z_h, z_u, z_u1, z_c, z_ct, z_sk, sbne, lst1_d, ldel, lst2_d, ldel2, z_sw, z_rok, zi, eq_self, List.map_cons, List.map_nil, List.append_nil, List.nil_append, List.cons_append, Int32.reduceLT, Int32.reduceLE, Int32.reduceAdd, Int32.reduceSub, Int32.reduceMul, Int32.reduceToInt, Int32.reduceToNatClampNeg, Int.reduceLT, Int.reduceLE, Int.reduceNeg, true_and, and_true, or_self, or_false, false_or, false_and, and_false, true_or, or_true, if_true, if_false, ne_eq, Classical.not_not, not_true_eq_false, not_false_eq_true, true_implies, false_implies, implies_true, Nat.reduceEqDiff, Nat.reduceAdd, Nat.reduceLeDiff, Nat.reduceSub, reduceCtorEq, reduceIte, b259_15, skM s, srM s, R, n61, n13]
        simp (disch := omega) only [nI_ti, nI_cl, le0N, ltNN, c4, e4, true_and]
        try simp only [lv_args, z_v, z_lg, z_h, z_u, z_u1, z_c, z_ct, z_sk, sbne, lst1_d, ldel, lst2_d, ldel2, z_sw, z_rok, zi, eq_self, List.map_cons, List.map_nil, List.append_nil, List.nil_append, List.cons_append, Int32.reduceLT, Int32.reduceLE, Int32.reduceAdd, Int32.reduceSub, Int32.reduceMul, Int32.reduceToInt, Int32.reduceToNatClampNeg, Int.reduceLT, Int.reduceLE, Int.reduceNeg, true_and, and_true, or_self, or_false, false_or, false_and, and_false, true_or, or_true, if_true, if_false, ne_eq, Classical.not_not, not_true_eq_false, not_false_eq_true, true_implies, false_implies, implies_true, Nat.reduceEqDiff, Nat.reduceAdd, Nat.reduceLeDiff, Nat.reduceSub, reduceCtorEq, reduceIte, b259_15, skM s, n13, rb_8 _ (x4 i), nI_s]
        try simp (disch := omega) only [nI_ti, nI_cl, le0N, ltNN, c4, e4, true_and]
        try simp only [lv_args, z_v, z_lg, z_h, z_u, z_u1, z_c, z_ct, z_sk, sbne, lst1_d, ldel, lst2_d, ldel2, z_sw, z_rok, zi, eq_self, List.map_cons, List.map_nil, List.append_nil, List.nil_append, List.cons_append, Int32.reduceLT, Int32.reduceLE, Int32.reduceAdd, Int32.reduceSub, Int32.reduceMul, Int32.reduceToInt, Int32.reduceToNatClampNeg, Int.reduceLT, Int.reduceLE, Int.reduceNeg, true_and, and_true, or_self, or_false, false_or, false_and, and_false, true_or, or_true, if_true, if_false, ne_eq, Classical.not_not, not_true_eq_false, not_false_eq_true, true_implies, false_implies, implies_true, Nat.reduceEqDiff, Nat.reduceAdd, Nat.reduceLeDiff, Nat.reduceSub, reduceCtorEq, reduceIte, b259_15, skM s, n13, rb_8 _ (x4 i), nI_s]
        exact G
      · have n13 : hN h 99 = 3000 := nn.2.2.2.2.2.2.2.2.2.2.2.2.1
        have G := ih (i + 1) (pA h 99 (upd (hA h 99) i (rb (t i)))) (by omega) (ks_A ky (by omega)) i9 i1 (fun j hj => by
          show upd (hA h 99) i (rb (t i)) j = _
          unfold upd
          by_cases cj : j = i
          · rw [if_pos cj, cj]
          · rw [if_neg cj]
            exact hc j (by omega))
        simp only [lv_args, z_v, z_lg, z_h, z_u, z_u1, z_c, z_ct, z_sk, sbne, lst1_d, ldel, lst2_d, ldel2, z_sw, z_rok, zi, eq_self, List.map_cons, List.map_nil, List.append_nil, List.nil_append, List.cons_append, Int32.reduceLT, Int32.reduceLE, Int32.reduceAdd, Int32.reduceSub, Int32.reduceMul, Int32.reduceToInt, Int32.reduceToNatClampNeg, Int.reduceLT, Int.reduceLE, Int.reduceNeg, true_and, and_true, or_self, or_false, false_or, false_and, and_false, true_or, or_true, if_true, if_false, ne_eq, Classical.not_not, not_true_eq_false, not_false_eq_true, true_implies, false_implies, implies_true, Nat.reduceEqDiff, Nat.reduceAdd, Nat.reduceLeDiff, Nat.reduceSub, reduceCtorEq, reduceIte, b259_15, skM s, srM s, R, n61, n13]
        simp (disch := omega) only [nI_ti, nI_cl, le0N, ltNN, c4, e4, true_and]
        try simp only [lv_args, z_v, z_lg, z_h, z_u, z_u1, z_c, z_ct, z_sk, sbne, lst1_d, ldel, lst2_d, ldel2, z_sw, z_rok, zi, eq_self, List.map_cons, List.map_nil, List.append_nil, List.nil_append, List.cons_append, Int32.reduceLT, Int32.reduceLE, Int32.reduceAdd, Int32.reduceSub, Int32.reduceMul, Int32.reduceToInt, Int32.reduceToNatClampNeg, Int.reduceLT, Int.reduceLE, Int.reduceNeg, true_and, and_true, or_self, or_false, false_or, false_and, and_false, true_or, or_true, if_true, if_false, ne_eq, Classical.not_not, not_true_eq_false, not_false_eq_true, true_implies, false_implies, implies_true, Nat.reduceEqDiff, Nat.reduceAdd, Nat.reduceLeDiff, Nat.reduceSub, reduceCtorEq, reduceIte, b259_15, skM s, n13, rb_8 _ (x4 i), nI_s]
        try simp (disch := omega) only [nI_ti, nI_cl, le0N, ltNN, c4, e4, true_and]
        try simp only [lv_args, z_v, z_lg, z_h, z_u, z_u1, z_c, z_ct, z_sk, sbne, lst1_d, ldel, lst2_d, ldel2, z_sw, z_rok, zi, eq_self, List.map_cons, List.map_nil, List.append_nil, List.nil_append, List.cons_append, Int32.reduceLT, Int32.reduceLE, Int32.reduceAdd, Int32.reduceSub, Int32.reduceMul, Int32.reduceToInt, Int32.reduceToNatClampNeg, Int.reduceLT, Int.reduceLE, Int.reduceNeg, true_and, and_true, or_self, or_false, false_or, false_and, and_false, true_or, or_true, if_true, if_false, ne_eq, Classical.not_not, not_true_eq_false, not_false_eq_true, true_implies, false_implies, implies_true, Nat.reduceEqDiff, Nat.reduceAdd, Nat.reduceLeDiff, Nat.reduceSub, reduceCtorEq, reduceIte, b259_15, skM s, n13, rb_8 _ (x4 i), nI_s]
        exact G
  have go := copy n 0 (pI h0 59 9 0) (Nat.zero_add _) ky0 rfl (by rcases hq66 with rfl | rfl <;> exact e1) (fun j hj => by omega)
  unfold aEv
  simp only [lv_args, z_v, z_lg, z_h, z_u, z_u1, z_c, z_ct, z_sk, sbne, lst1_d, ldel, lst2_d, ldel2, z_sw, z_rok, zi, eq_self, List.map_cons, List.map_nil, List.append_nil, List.nil_append, List.cons_append, Int32.reduceLT, Int32.reduceLE, Int32.reduceAdd, Int32.reduceSub, Int32.reduceMul, Int32.reduceToInt, Int32.reduceToNatClampNeg, Int.reduceLT, Int.reduceLE, Int.reduceNeg, true_and, and_true, or_self, or_false, false_or, false_and, and_false, true_or, or_true, if_true, if_false, ne_eq, Classical.not_not, not_true_eq_false, not_false_eq_true, true_implies, false_implies, implies_true, Nat.reduceEqDiff, Nat.reduceAdd, Nat.reduceLeDiff, Nat.reduceSub, reduceCtorEq, reduceIte, b259_0, skM s0]
  exact go
end MSS
