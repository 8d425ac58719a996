/-! BUILD. The words come first into the table -/
abbrev K3 := Int64 × Int64 × Nat
def tkS (k : K3) (c : Int32) : K3 := if 6 ≤ k.2.2 then (k.1, k.2.1 <<< ((8 : Int32).toInt64 &&& 63) ||| c.toInt64, k.2.2 + 1) else (k.1 <<< ((8 : Int32).toInt64 &&& 63) ||| c.toInt64, k.2.1, k.2.2 + 1)
def kyS (s : List Int32) : K3 := s.foldl tkS (0, 0, 0)
def ky (s : List Int32) : KY := ((kyS s).1, (kyS s).2.1)
def SG (k : K3) (h : Hp) : Prop := hL h 4 7 = k.1 ∧ hL h 4 8 = k.2.1 ∧ hI h 4 9 = nI k.2.2
def twS (x : K3 × List KY) (c : Nat) : K3 × List KY := if c = 32 then ((0, 0, 0), if (x.1.1, x.1.2.1) ∈ x.2 then x.2 else x.2 ++ [(x.1.1, x.1.2.1)]) else (tkS x.1 (nI c), x.2)
section NMT
variable {h h0 h' : Hp} {Q : Option Value → Hp → Prop} {d : Nat} {K : List KY} {mt : List Nat} {k : K3}
theorem frn_u {v w : Int64} {x : Int32} : FrN h (pI (pL (pL h 4 7 v) 4 8 w) 4 9 x) := ⟨rfl, rfl, rfl, rfl, rfl, rfl, fun a c => up2_row c, fun a c => (up2_row c).trans (up2_row c), fun _ _ _ _ => rfl, fun _ _ _ => rfl⟩
theorem frn_7 {v : Int64} {x : Int32} : FrN h (pI (pL h 4 7 v) 4 9 x) := ⟨rfl, rfl, rfl, rfl, rfl, rfl, fun a c => up2_row c, fun a c => up2_row c, fun _ _ _ _ => rfl, fun _ _ _ => rfl⟩
theorem frn_8 {v : Int64} {x : Int32} : FrN h (pI (pL h 4 8 v) 4 9 x) := ⟨rfl, rfl, rfl, rfl, rfl, rfl, fun a c => up2_row c, fun a c => up2_row c, fun _ _ _ _ => rfl, fun _ _ _ => rfl⟩
theorem sp_start (s : Sk h) (nt : NT K mt h) (hq : ∀ h', NT K mt h' → SG (0, 0, 0) h' → FrN h h' → Q none h') : aEv d 84 [.ref 4] h Q := by
  rw [e84_4 _ _ s]
  exact hq _ nt ⟨rfl, rfl, rfl⟩ frn_u
theorem sp_sign {c : Int32} (s : Sk h) (nt : NT K mt h) (g : SG k h) (hk : k.2.2 < 1000000) (hq : ∀ h', NT K mt h' → SG (tkS k c) h' → FrN h h' → Q none h') : aEv d 85 [.ref 4, .int c] h Q := by
  obtain ⟨g1, g2, g3⟩ := g
  have z6 : (6 : Int32) = nI 6 := rfl
  rw [e85_4 _ _ s, g3, z6, nI_leN (by omega) (by omega), nI_1]
  unfold tkS at hq
  refine ⟨fun c6 => ?_, fun c6 => ?_⟩
  · rw [if_pos c6] at hq
    exact hq _ nt ⟨g1, by rw [← g2]; rfl, rfl⟩ frn_8
  · rw [if_neg c6] at hq
    exact hq _ nt ⟨by rw [← g1]; rfl, g2, rfl⟩ frn_7
theorem tw_loop {j : Nat} (hj : j < 5) (hd : 12 < d) (hlen : (sCh j).length < 1000) (hn5 : 32 ≤ hN h0 5 ∧ 32 ≤ hN h0 6 ∧ 32 ≤ hN h0 7 ∧ 32 ≤ hN h0 8 ∧ hN h0 5 ≤ 10000) (s0 : Sk h0) : ∀ (cs : List Nat) (i : Nat) (x : K3 × List KY) (R : ALS) (h : Hp), (sCh j).drop i = cs → i ≤ (sCh j).length → (R = [(0, .ref 4), (1, .ref (SB + j))] ∨ ∃ y, R = [(3, .int y), (0, .ref 4), (1, .ref (SB + j))]) → NT x.2 mt h → SG x.1 h → x.1.2.2 ≤ i → FrN h0 h → x.2.length + cs.count 32 ≤ 31 → (∀ h', NT (cs.foldl twS x).2 mt h' → FrN h0 h' → Q none h') → aWP d 86 6 ((2, .int (nI i)) :: R) [] h Q := by
  intro cs
  have h00 : 0 < d := by omega
  have h8 : 8 < d := by omega
  induction cs with
  | nil =>
    intro i x R h hdr hi hR nt g hs F hcnt hq
    have hi2 : (sCh j).length ≤ i := by
      have := congrArg List.length hdr
      rw [List.length_drop, List.length_nil] at this
      omega
    have fin := hq h nt F
    rcases hR with rfl | ⟨y, rfl⟩
    · simp only [lv_args, z_v, z_lg, z_h, z_u, z_u1, z_c, z_ct, z_sk, sbne, lst1_d, ldel, lst2_d, ldel2, z_sw, z_rok, zi, eq_self, List.map_cons, List.map_nil, List.append_nil, List.nil_append, List.cons_append, Int32.reduceLT, Int32.reduceLE, Int32.reduceAdd, Int32.reduceSub, Int32.reduceMul, Int32.reduceToInt, Int32.reduceToNatClampNeg, Int.reduceLT, Int.reduceLE, Int.reduceNeg, true_and, and_true, or_self, or_false, false_or, false_and, and_false, true_or, or_true, if_true, if_false, ne_eq, Classical.not_not, not_true_eq_false, not_false_eq_true, true_implies, false_implies, implies_true, Nat.reduceEqDiff, Nat.reduceAdd, Nat.reduceLeDiff, Nat.reduceSub, reduceCtorEq, reduceIte, b86_6]
      refine (x86_8 d _ [.int (nI i)] h Q j hj (by simp only [z_c]; omega)).mpr ⟨h8, ?_⟩
      simp only [lv_args, z_v, z_lg, z_h, z_u, z_u1, z_c, z_ct, z_sk, sbne, lst1_d, ldel, lst2_d, ldel2, z_sw, z_rok, zi, eq_self, List.map_cons, List.map_nil, List.append_nil, List.nil_append, List.cons_append, Int32.reduceLT, Int32.reduceLE, Int32.reduceAdd, Int32.reduceSub, Int32.reduceMul, Int32.reduceToInt, Int32.reduceToNatClampNeg, Int.reduceLT, Int.reduceLE, Int.reduceNeg, true_and, and_true, or_self, or_false, false_or, false_and, and_false, true_or, or_true, if_true, if_false, ne_eq, Classical.not_not, not_true_eq_false, not_false_eq_true, true_implies, false_implies, implies_true, Nat.reduceEqDiff, Nat.reduceAdd, Nat.reduceLeDiff, Nat.reduceSub, reduceCtorEq, reduceIte, b86_6]
      simp (disch := omega) only [nI_leN]
      refine ⟨fun _ => ?_, fun c => absurd hi2 c⟩
      simp only [lv_args, z_v, z_lg, z_h, z_u, z_u1, z_c, z_ct, z_sk, sbne, lst1_d, ldel, lst2_d, ldel2, z_sw, z_rok, zi, eq_self, List.map_cons, List.map_nil, List.append_nil, List.nil_append, List.cons_append, Int32.reduceLT, Int32.reduceLE, Int32.reduceAdd, Int32.reduceSub, Int32.reduceMul, Int32.reduceToInt, Int32.reduceToNatClampNeg, Int.reduceLT, Int.reduceLE, Int.reduceNeg, true_and, and_true, or_self, or_false, false_or, false_and, and_false, true_or, or_true, if_true, if_false, ne_eq, Classical.not_not, not_true_eq_false, not_false_eq_true, true_implies, false_implies, implies_true, Nat.reduceEqDiff, Nat.reduceAdd, Nat.reduceLeDiff, Nat.reduceSub, reduceCtorEq, reduceIte, b86_49]
      exact fin
    · simp only [lv_args, z_v, z_lg, z_h, z_u, z_u1, z_c, z_ct, z_sk, sbne, lst1_d, ldel, lst2_d, ldel2, z_sw, z_rok, zi, eq_self, List.map_cons, List.map_nil, List.append_nil, List.nil_append, List.cons_append, Int32.reduceLT, Int32.reduceLE, Int32.reduceAdd, Int32.reduceSub, Int32.reduceMul, Int32.reduceToInt, Int32.reduceToNatClampNeg, Int.reduceLT, Int.reduceLE, Int.reduceNeg, true_and, and_true, or_self, or_false, false_or, false_and, and_false, true_or, or_true, if_true, if_false, ne_eq, Classical.not_not, not_true_eq_false, not_false_eq_true, true_implies, false_implies, implies_true, Nat.reduceEqDiff, Nat.reduceAdd, Nat.reduceLeDiff, Nat.reduceSub, reduceCtorEq, reduceIte, b86_6]
      refine (x86_8 d _ [.int (nI i)] h Q j hj (by simp only [z_c]; omega)).mpr ⟨h8, ?_⟩
      simp only [lv_args, z_v, z_lg, z_h, z_u, z_u1, z_c, z_ct, z_sk, sbne, lst1_d, ldel, lst2_d, ldel2, z_sw, z_rok, zi, eq_self, List.map_cons, List.map_nil, List.append_nil, List.nil_append, List.cons_append, Int32.reduceLT, Int32.reduceLE, Int32.reduceAdd, Int32.reduceSub, Int32.reduceMul, Int32.reduceToInt, Int32.reduceToNatClampNeg, Int.reduceLT, Int.reduceLE, Int.reduceNeg, true_and, and_true, or_self, or_false, false_or, false_and, and_false, true_or, or_true, if_true, if_false, ne_eq, Classical.not_not, not_true_eq_false, not_false_eq_true, true_implies, false_implies, implies_true, Nat.reduceEqDiff, Nat.reduceAdd, Nat.reduceLeDiff, Nat.reduceSub, reduceCtorEq, reduceIte, b86_6]
      simp (disch := omega) only [nI_leN]
      refine ⟨fun _ => ?_, fun c => absurd hi2 c⟩
      simp only [lv_args, z_v, z_lg, z_h, z_u, z_u1, z_c, z_ct, z_sk, sbne, lst1_d, ldel, lst2_d, ldel2, z_sw, z_rok, zi, eq_self, List.map_cons, List.map_nil, List.append_nil, List.nil_append, List.cons_append, Int32.reduceLT, Int32.reduceLE, Int32.reduceAdd, Int32.reduceSub, Int32.reduceMul, Int32.reduceToInt, Int32.reduceToNatClampNeg, Int.reduceLT, Int.reduceLE, Int.reduceNeg, true_and, and_true, or_self, or_false, false_or, false_and, and_false, true_or, or_true, if_true, if_false, ne_eq, Classical.not_not, not_true_eq_false, not_false_eq_true, true_implies, false_implies, implies_true, Nat.reduceEqDiff, Nat.reduceAdd, Nat.reduceLeDiff, Nat.reduceSub, reduceCtorEq, reduceIte, b86_49]
      exact fin
  | cons c cs ih =>
    intro i x R h hdr hi hR nt g hs F hcnt hq
    have s := frn_sk F s0
    have hil : i < (sCh j).length := by
      have := congrArg List.length hdr
      rw [List.length_drop, List.length_cons] at this
      omega
    have ec : (sCh j).getD i 0 = c := by
      have h1 : (sCh j)[i]? = some c := by
        have := congrArg (fun l => l[0]?) hdr
        simp only [List.getElem?_drop, Nat.add_zero, List.getElem?_cons_zero] at this
        exact this
      rw [List.getD_eq_getElem?_getD, h1]; rfl
    have hdr2 : (sCh j).drop (i + 1) = cs := by
      rw [← List.tail_drop, hdr]; rfl
    have key : ∀ R', (R' = [(0, .ref 4), (1, .ref (SB + j))]) → aWP d 86 20 ((3, .int (nI c)) :: (2, .int (nI i)) :: R') [] h Q := by
      rintro R' rfl
      simp only [lv_args, z_v, z_lg, z_h, z_u, z_u1, z_c, z_ct, z_sk, sbne, lst1_d, ldel, lst2_d, ldel2, z_sw, z_rok, zi, eq_self, List.map_cons, List.map_nil, List.append_nil, List.nil_append, List.cons_append, Int32.reduceLT, Int32.reduceLE, Int32.reduceAdd, Int32.reduceSub, Int32.reduceMul, Int32.reduceToInt, Int32.reduceToNatClampNeg, Int.reduceLT, Int.reduceLE, Int.reduceNeg, true_and, and_true, or_self, or_false, false_or, false_and, and_false, true_or, or_true, if_true, if_false, ne_eq, Classical.not_not, not_true_eq_false, not_false_eq_true, true_implies, false_implies, implies_true, Nat.reduceEqDiff, Nat.reduceAdd, Nat.reduceLeDiff, Nat.reduceSub, reduceCtorEq, reduceIte, b86_14]
      by_cases c32 : c = 32
      · subst c32
        have e32 : nI 32 = (32 : Int32) := rfl
        rw [e32]
        simp only [lv_args, z_v, z_lg, z_h, z_u, z_u1, z_c, z_ct, z_sk, sbne, lst1_d, ldel, lst2_d, ldel2, z_sw, z_rok, zi, eq_self, List.map_cons, List.map_nil, List.append_nil, List.nil_append, List.cons_append, Int32.reduceLT, Int32.reduceLE, Int32.reduceAdd, Int32.reduceSub, Int32.reduceMul, Int32.reduceToInt, Int32.reduceToNatClampNeg, Int.reduceLT, Int.reduceLE, Int.reduceNeg, true_and, and_true, or_self, or_false, false_or, false_and, and_false, true_or, or_true, if_true, if_false, ne_eq, Classical.not_not, not_true_eq_false, not_false_eq_true, true_implies, false_implies, implies_true, Nat.reduceEqDiff, Nat.reduceAdd, Nat.reduceLeDiff, Nat.reduceSub, reduceCtorEq, reduceIte]
        have hl : x.2.length < 31 := by
          rw [List.count_cons_self] at hcnt
          omega
        have hK3 := F.2.2.1
        obtain ⟨g1, g2, g3⟩ := g
        have cont : ∀ (K' : List KY) (h1 : Hp), (twS x 32).2 = K' → NT K' mt h1 → FrN h h1 → aEv (d - 1) 84 [.ref 4] h1 (aCt d 86 35 [(3, .int 32), (2, .int (nI i)), (0, .ref 4), (1, .ref (SB + j))] [] h1 Q) := by
          intro K' h1 eK nt1 F1
          have s1 := frn_sk F1 s
          refine sp_start s1 nt1 (fun h2 nt2 g2' F2 => ?_)
          have s2 := frn_sk F2 s1
          have hvv : hv h2 = hv h1 := F2.2.2.2.2.2.1
          simp only [lv_args, z_v, z_lg, z_h, z_u, z_u1, z_c, z_ct, z_sk, sbne, lst1_d, ldel, lst2_d, ldel2, z_sw, z_rok, zi, eq_self, List.map_cons, List.map_nil, List.append_nil, List.nil_append, List.cons_append, Int32.reduceLT, Int32.reduceLE, Int32.reduceAdd, Int32.reduceSub, Int32.reduceMul, Int32.reduceToInt, Int32.reduceToNatClampNeg, Int.reduceLT, Int.reduceLE, Int.reduceNeg, true_and, and_true, or_self, or_false, false_or, false_and, and_false, true_or, or_true, if_true, if_false, ne_eq, Classical.not_not, not_true_eq_false, not_false_eq_true, true_implies, false_implies, implies_true, Nat.reduceEqDiff, Nat.reduceAdd, Nat.reduceLeDiff, Nat.reduceSub, reduceCtorEq, reduceIte, b86_26, b86_43, skX s1, skX s2, hvv, Nat.reduceLT, nI_1]
          have e2 : twS x 32 = ((0, 0, 0), K') := by
            rw [← eK]; rfl
          have hlK : K'.length ≤ x.2.length + 1 := by
            rw [← eK]
            show (if _ then x.2 else x.2 ++ [_]).length ≤ _
            split
            · omega
            · rw [List.length_append]; exact Nat.le_refl _
          refine ih (i + 1) ((0, 0, 0), K') _ h2 hdr2 (by omega) (Or.inr ⟨32, rfl⟩) nt2 g2' (Nat.zero_le _) (frn_tr F (frn_tr F1 F2)) ?_ (fun h' a b => hq h' ?_ b)
          · rw [List.count_cons_self] at hcnt
            show K'.length + _ ≤ 31
            omega
          · rw [List.foldl_cons, e2]; exact a
        simp only [lv_args, z_v, z_lg, z_h, z_u, z_u1, z_c, z_ct, z_sk, sbne, lst1_d, ldel, lst2_d, ldel2, z_sw, z_rok, zi, eq_self, List.map_cons, List.map_nil, List.append_nil, List.nil_append, List.cons_append, Int32.reduceLT, Int32.reduceLE, Int32.reduceAdd, Int32.reduceSub, Int32.reduceMul, Int32.reduceToInt, Int32.reduceToNatClampNeg, Int.reduceLT, Int.reduceLE, Int.reduceNeg, true_and, and_true, or_self, or_false, false_or, false_and, and_false, true_or, or_true, if_true, if_false, ne_eq, Classical.not_not, not_true_eq_false, not_false_eq_true, true_implies, false_implies, implies_true, Nat.reduceEqDiff, Nat.reduceAdd, Nat.reduceLeDiff, Nat.reduceSub, reduceCtorEq, reduceIte, b86_26, skX s, h00]
        refine sp_endName (k := (x.1.1, x.1.2.1)) s nt g1 g2 (by rw [hK3]; omega) (by omega) (by rw [hK3]; omega) (by omega) (fun t ht => ?_) (fun hk h1 nt1 F1 => ?_)
        · simp only [lv_args, z_v, z_lg, z_h, z_u, z_u1, z_c, z_ct, z_sk, sbne, lst1_d, ldel, lst2_d, ldel2, z_sw, z_rok, zi, eq_self, List.map_cons, List.map_nil, List.append_nil, List.nil_append, List.cons_append, Int32.reduceLT, Int32.reduceLE, Int32.reduceAdd, Int32.reduceSub, Int32.reduceMul, Int32.reduceToInt, Int32.reduceToNatClampNeg, Int.reduceLT, Int.reduceLE, Int.reduceNeg, true_and, and_true, or_self, or_false, false_or, false_and, and_false, true_or, or_true, if_true, if_false, ne_eq, Classical.not_not, not_true_eq_false, not_false_eq_true, true_implies, false_implies, implies_true, Nat.reduceEqDiff, Nat.reduceAdd, Nat.reduceLeDiff, Nat.reduceSub, reduceCtorEq, reduceIte, b86_26, skX s, h00, Nat.reduceLT]
          exact cont x.2 h (if_pos (List.mem_of_getElem? ht)) nt frn_rf
        · have hvv : hv h1 = hv h := F1.2.2.2.2.2.1
          have s1 := frn_sk F1 s
          simp only [lv_args, z_v, z_lg, z_h, z_u, z_u1, z_c, z_ct, z_sk, sbne, lst1_d, ldel, lst2_d, ldel2, z_sw, z_rok, zi, eq_self, List.map_cons, List.map_nil, List.append_nil, List.nil_append, List.cons_append, Int32.reduceLT, Int32.reduceLE, Int32.reduceAdd, Int32.reduceSub, Int32.reduceMul, Int32.reduceToInt, Int32.reduceToNatClampNeg, Int.reduceLT, Int.reduceLE, Int.reduceNeg, true_and, and_true, or_self, or_false, false_or, false_and, and_false, true_or, or_true, if_true, if_false, ne_eq, Classical.not_not, not_true_eq_false, not_false_eq_true, true_implies, false_implies, implies_true, Nat.reduceEqDiff, Nat.reduceAdd, Nat.reduceLeDiff, Nat.reduceSub, reduceCtorEq, reduceIte, b86_26, skX s, skX s1, h00, hvv, Nat.reduceLT]
          exact cont _ h1 (if_neg hk) nt1 F1
      · have hc1 : ¬ nI c = (32 : Int32) := fun e => by
          have hcl : c < 100000 := by
            have h1 : c ∈ sCh j := by
              have := List.mem_of_getElem? (show ((sCh j).drop i)[0]? = some c by rw [hdr]; rfl)
              exact List.mem_of_mem_drop this
            have h2 : ∀ j, j < 5 → ∀ c, c ∈ sCh j → c < 100000 := by decide +kernel
            exact h2 j hj c h1
          exact c32 (nI_inj (by omega) (by omega) e)
        simp only [lv_args, z_v, z_lg, z_h, z_u, z_u1, z_c, z_ct, z_sk, sbne, lst1_d, ldel, lst2_d, ldel2, z_sw, z_rok, zi, eq_self, List.map_cons, List.map_nil, List.append_nil, List.nil_append, List.cons_append, Int32.reduceLT, Int32.reduceLE, Int32.reduceAdd, Int32.reduceSub, Int32.reduceMul, Int32.reduceToInt, Int32.reduceToNatClampNeg, Int.reduceLT, Int.reduceLE, Int.reduceNeg, true_and, and_true, or_self, or_false, false_or, false_and, and_false, true_or, or_true, if_true, if_false, ne_eq, Classical.not_not, not_true_eq_false, not_false_eq_true, true_implies, false_implies, implies_true, Nat.reduceEqDiff, Nat.reduceAdd, Nat.reduceLeDiff, Nat.reduceSub, reduceCtorEq, reduceIte, hc1]
        simp only [lv_args, z_v, z_lg, z_h, z_u, z_u1, z_c, z_ct, z_sk, sbne, lst1_d, ldel, lst2_d, ldel2, z_sw, z_rok, zi, eq_self, List.map_cons, List.map_nil, List.append_nil, List.nil_append, List.cons_append, Int32.reduceLT, Int32.reduceLE, Int32.reduceAdd, Int32.reduceSub, Int32.reduceMul, Int32.reduceToInt, Int32.reduceToNatClampNeg, Int.reduceLT, Int.reduceLE, Int.reduceNeg, true_and, and_true, or_self, or_false, false_or, false_and, and_false, true_or, or_true, if_true, if_false, ne_eq, Classical.not_not, not_true_eq_false, not_false_eq_true, true_implies, false_implies, implies_true, Nat.reduceEqDiff, Nat.reduceAdd, Nat.reduceLeDiff, Nat.reduceSub, reduceCtorEq, reduceIte, b86_38, skX s, h00]
        refine sp_sign s nt g (by omega) (fun h1 nt1 g1 F1 => ?_)
        have s1 := frn_sk F1 s
        have hvv : hv h1 = hv h := F1.2.2.2.2.2.1
        simp only [lv_args, z_v, z_lg, z_h, z_u, z_u1, z_c, z_ct, z_sk, sbne, lst1_d, ldel, lst2_d, ldel2, z_sw, z_rok, zi, eq_self, List.map_cons, List.map_nil, List.append_nil, List.nil_append, List.cons_append, Int32.reduceLT, Int32.reduceLE, Int32.reduceAdd, Int32.reduceSub, Int32.reduceMul, Int32.reduceToInt, Int32.reduceToNatClampNeg, Int.reduceLT, Int.reduceLE, Int.reduceNeg, true_and, and_true, or_self, or_false, false_or, false_and, and_false, true_or, or_true, if_true, if_false, ne_eq, Classical.not_not, not_true_eq_false, not_false_eq_true, true_implies, false_implies, implies_true, Nat.reduceEqDiff, Nat.reduceAdd, Nat.reduceLeDiff, Nat.reduceSub, reduceCtorEq, reduceIte, b86_38, b86_43, skX s, skX s1, hvv, Nat.reduceLT, nI_1]
        have e2 : twS x c = (tkS x.1 (nI c), x.2) := if_neg c32
        have hcc : (c :: cs).count 32 = cs.count 32 := List.count_cons_of_ne (by exact c32)
        have hsl : (tkS x.1 (nI c)).2.2 ≤ i + 1 := by
          unfold tkS
          split
          · show x.1.2.2 + 1 ≤ i + 1; omega
          · show x.1.2.2 + 1 ≤ i + 1; omega
        refine ih (i + 1) (tkS x.1 (nI c), x.2) _ h1 hdr2 (by omega) (Or.inr ⟨nI c, rfl⟩) nt1 g1 hsl (frn_tr F F1) (by rw [hcc] at hcnt; exact hcnt) (fun h' a b => hq h' ?_ b)
        rw [List.foldl_cons, e2]; exact a
    rcases hR with rfl | ⟨y, rfl⟩
    · simp only [lv_args, z_v, z_lg, z_h, z_u, z_u1, z_c, z_ct, z_sk, sbne, lst1_d, ldel, lst2_d, ldel2, z_sw, z_rok, zi, eq_self, List.map_cons, List.map_nil, List.append_nil, List.nil_append, List.cons_append, Int32.reduceLT, Int32.reduceLE, Int32.reduceAdd, Int32.reduceSub, Int32.reduceMul, Int32.reduceToInt, Int32.reduceToNatClampNeg, Int.reduceLT, Int.reduceLE, Int.reduceNeg, true_and, and_true, or_self, or_false, false_or, false_and, and_false, true_or, or_true, if_true, if_false, ne_eq, Classical.not_not, not_true_eq_false, not_false_eq_true, true_implies, false_implies, implies_true, Nat.reduceEqDiff, Nat.reduceAdd, Nat.reduceLeDiff, Nat.reduceSub, reduceCtorEq, reduceIte, b86_6]
      refine (x86_8 d _ [.int (nI i)] h Q j hj (by simp only [z_c]; omega)).mpr ⟨h8, ?_⟩
      simp only [lv_args, z_v, z_lg, z_h, z_u, z_u1, z_c, z_ct, z_sk, sbne, lst1_d, ldel, lst2_d, ldel2, z_sw, z_rok, zi, eq_self, List.map_cons, List.map_nil, List.append_nil, List.nil_append, List.cons_append, Int32.reduceLT, Int32.reduceLE, Int32.reduceAdd, Int32.reduceSub, Int32.reduceMul, Int32.reduceToInt, Int32.reduceToNatClampNeg, Int.reduceLT, Int.reduceLE, Int.reduceNeg, true_and, and_true, or_self, or_false, false_or, false_and, and_false, true_or, or_true, if_true, if_false, ne_eq, Classical.not_not, not_true_eq_false, not_false_eq_true, true_implies, false_implies, implies_true, Nat.reduceEqDiff, Nat.reduceAdd, Nat.reduceLeDiff, Nat.reduceSub, reduceCtorEq, reduceIte, b86_6]
      simp (disch := omega) only [nI_leN]
      refine ⟨fun c => absurd c (by omega), fun _ => ?_⟩
      simp only [lv_args, z_v, z_lg, z_h, z_u, z_u1, z_c, z_ct, z_sk, sbne, lst1_d, ldel, lst2_d, ldel2, z_sw, z_rok, zi, eq_self, List.map_cons, List.map_nil, List.append_nil, List.nil_append, List.cons_append, Int32.reduceLT, Int32.reduceLE, Int32.reduceAdd, Int32.reduceSub, Int32.reduceMul, Int32.reduceToInt, Int32.reduceToNatClampNeg, Int.reduceLT, Int.reduceLE, Int.reduceNeg, true_and, and_true, or_self, or_false, false_or, false_and, and_false, true_or, or_true, if_true, if_false, ne_eq, Classical.not_not, not_true_eq_false, not_false_eq_true, true_implies, false_implies, implies_true, Nat.reduceEqDiff, Nat.reduceAdd, Nat.reduceLeDiff, Nat.reduceSub, reduceCtorEq, reduceIte, b86_14.1, b86_14.2.1]
      refine (x86_16 d _ [] h Q j i hj hil (by omega) (by simp only [z_c]; omega)).mpr ⟨h8, ?_⟩
      rw [ec]
      simp only [lv_args, z_v, z_lg, z_h, z_u, z_u1, z_c, z_ct, z_sk, sbne, lst1_d, ldel, lst2_d, ldel2, z_sw, z_rok, zi, eq_self, List.map_cons, List.map_nil, List.append_nil, List.nil_append, List.cons_append, Int32.reduceLT, Int32.reduceLE, Int32.reduceAdd, Int32.reduceSub, Int32.reduceMul, Int32.reduceToInt, Int32.reduceToNatClampNeg, Int.reduceLT, Int.reduceLE, Int.reduceNeg, true_and, and_true, or_self, or_false, false_or, false_and, and_false, true_or, or_true, if_true, if_false, ne_eq, Classical.not_not, not_true_eq_false, not_false_eq_true, true_implies, false_implies, implies_true, Nat.reduceEqDiff, Nat.reduceAdd, Nat.reduceLeDiff, Nat.reduceSub, reduceCtorEq, reduceIte, b86_14.2.2.1]
      exact key _ rfl
    · simp only [lv_args, z_v, z_lg, z_h, z_u, z_u1, z_c, z_ct, z_sk, sbne, lst1_d, ldel, lst2_d, ldel2, z_sw, z_rok, zi, eq_self, List.map_cons, List.map_nil, List.append_nil, List.nil_append, List.cons_append, Int32.reduceLT, Int32.reduceLE, Int32.reduceAdd, Int32.reduceSub, Int32.reduceMul, Int32.reduceToInt, Int32.reduceToNatClampNeg, Int.reduceLT, Int.reduceLE, Int.reduceNeg, true_and, and_true, or_self, or_false, false_or, false_and, and_false, true_or, or_true, if_true, if_false, ne_eq, Classical.not_not, not_true_eq_false, not_false_eq_true, true_implies, false_implies, implies_true, Nat.reduceEqDiff, Nat.reduceAdd, Nat.reduceLeDiff, Nat.reduceSub, reduceCtorEq, reduceIte, b86_6]
      refine (x86_8 d _ [.int (nI i)] h Q j hj (by simp only [z_c]; omega)).mpr ⟨h8, ?_⟩
      simp only [lv_args, z_v, z_lg, z_h, z_u, z_u1, z_c, z_ct, z_sk, sbne, lst1_d, ldel, lst2_d, ldel2, z_sw, z_rok, zi, eq_self, List.map_cons, List.map_nil, List.append_nil, List.nil_append, List.cons_append, Int32.reduceLT, Int32.reduceLE, Int32.reduceAdd, Int32.reduceSub, Int32.reduceMul, Int32.reduceToInt, Int32.reduceToNatClampNeg, Int.reduceLT, Int.reduceLE, Int.reduceNeg, true_and, and_true, or_self, or_false, false_or, false_and, and_false, true_or, or_true, if_true, if_false, ne_eq, Classical.not_not, not_true_eq_false, not_false_eq_true, true_implies, false_implies, implies_true, Nat.reduceEqDiff, Nat.reduceAdd, Nat.reduceLeDiff, Nat.reduceSub, reduceCtorEq, reduceIte, b86_6]
      simp (disch := omega) only [nI_leN]
      refine ⟨fun c => absurd c (by omega), fun _ => ?_⟩
      simp only [lv_args, z_v, z_lg, z_h, z_u, z_u1, z_c, z_ct, z_sk, sbne, lst1_d, ldel, lst2_d, ldel2, z_sw, z_rok, zi, eq_self, List.map_cons, List.map_nil, List.append_nil, List.nil_append, List.cons_append, Int32.reduceLT, Int32.reduceLE, Int32.reduceAdd, Int32.reduceSub, Int32.reduceMul, Int32.reduceToInt, Int32.reduceToNatClampNeg, Int.reduceLT, Int.reduceLE, Int.reduceNeg, true_and, and_true, or_self, or_false, false_or, false_and, and_false, true_or, or_true, if_true, if_false, ne_eq, Classical.not_not, not_true_eq_false, not_false_eq_true, true_implies, false_implies, implies_true, Nat.reduceEqDiff, Nat.reduceAdd, Nat.reduceLeDiff, Nat.reduceSub, reduceCtorEq, reduceIte, b86_14.1, b86_14.2.1]
      refine (x86_16 d _ [] h Q j i hj hil (by omega) (by simp only [z_c]; omega)).mpr ⟨h8, ?_⟩
      rw [ec]
      simp only [lv_args, z_v, z_lg, z_h, z_u, z_u1, z_c, z_ct, z_sk, sbne, lst1_d, ldel, lst2_d, ldel2, z_sw, z_rok, zi, eq_self, List.map_cons, List.map_nil, List.append_nil, List.nil_append, List.cons_append, Int32.reduceLT, Int32.reduceLE, Int32.reduceAdd, Int32.reduceSub, Int32.reduceMul, Int32.reduceToInt, Int32.reduceToNatClampNeg, Int.reduceLT, Int.reduceLE, Int.reduceNeg, true_and, and_true, or_self, or_false, false_or, false_and, and_false, true_or, or_true, if_true, if_false, ne_eq, Classical.not_not, not_true_eq_false, not_false_eq_true, true_implies, false_implies, implies_true, Nat.reduceEqDiff, Nat.reduceAdd, Nat.reduceLeDiff, Nat.reduceSub, reduceCtorEq, reduceIte, b86_14.2.2.1]
      exact key _ rfl
end NMT
