/-! BUILD. What bodies keep -/
theorem idx_at {b : Nat} : ∀ {l : List Nat} {i : Nat}, l[i]? = some b → (∀ j, j < i → l[j]? ≠ some b) → l.idxOf b = i
  | [], i, h, _ => by simp at h
  | x :: l, 0, h, _ => by
    simp only [List.getElem?_cons_zero, Option.some.injEq] at h
    subst h
    exact List.idxOf_cons_self
  | x :: l, i + 1, h, hj => by
    have hx : x ≠ b := fun c => hj 0 (Nat.succ_pos _) (by rw [c]; rfl)
    rw [List.idxOf_cons, show (x == b) = false by simpa using hx, idx_at (l := l) (i := i) (by simpa using h) (fun j hj' => by have := hj (j + 1) (by omega); simpa using this)]
    rfl
theorem em248 (l i : Nat) : nI l * 248 + nI i = nI (248 * l + i) := by
  have e1 : (248 : Int32) = nI 248 := rfl
  have e2 : nI l * nI 248 = nI (l * 248) := (Int32.ofNat_mul l 248).symm
  rw [e1, e2, nI_add, Nat.mul_comm]
theorem em2 (l : Nat) : nI l * 248 = nI (248 * l) := by
  have e1 : (248 : Int32) = nI 248 := rfl
  have e2 : nI l * nI 248 = nI (l * 248) := (Int32.ofNat_mul l 248).symm
  rw [e1, e2, Nat.mul_comm]
def kpM (o m b : Nat) (f : Nat → List Nat) : Nat → List Nat := fun l => if o < l ∧ l < m ∧ b ∉ f l then f l ++ [b] else f l
def zKp (o m b : Nat) (z : CR) : CR := (z.1, (rSc z, rBd z, kpM o m b (rKp z)), z.2.2)
section CKP
variable {h h' h0 : Hp} {Q : Option Value → Hp → Prop} {d p c1 c2 n : Nat} {N : NS} {mt op : List Nat} {K : List KY} {z : CR}
theorem sp_kplace {f : Nat → List Nat} {bd l b : Nat} (s : Sk h) (n45 : hN h 45 = 32) (n44 : hN h 44 ≤ 1000000) (kp : KPx f bd h) (hl : l ≤ bd) (hl2 : l ≤ 31) (hb : b < 100000) (hf : ∀ x, x ∈ f l → x < 100000) (hq : Q (some (.int (if b ∈ f l then nI ((f l).idxOf b) else -1))) h) : aEv d 150 [.ref 40, .int (nI l), .int (nI b)] h Q := by
  obtain ⟨t1, t2, t3⟩ := kp l hl
  have b45 : (l < 32) = True := eq_true (by omega)
  have z32 : (32 : Int32) = nI 32 := rfl
  have x1 : (nI l < 0) = False := nI_lt0 (by omega)
  have x2 : (nI 32 ≤ nI l) = False := by rw [nI_leN (by omega) (by omega)]; exact eq_false (by omega)
  have loop : ∀ m i, i + m = (f l).length → (∀ j, j < i → (f l)[j]? ≠ some b) → aWP d 150 32 [(5, .int (nI (248 * l + i))), (4, .int (nI (248 * l))), (3, .int (nI (f l).length)), (0, .ref 40), (1, .int (nI l)), (2, .int (nI b))] [] h Q := by
    intro m
    induction m with
    | zero =>
      intro i hi hj
      have nb : b ∉ f l := fun c => by
        obtain ⟨j, hj2⟩ := List.mem_iff_getElem?.mp c
        exact hj j (by have := g_lt hj2; omega) hj2
      rw [if_neg nb] at hq
      simp only [lv_args, z_v, z_lg, z_h, z_u, z_u1, z_c, z_ct, z_sk, sbne, lst1_d, ldel, lst2_d, ldel2, z_sw, z_rok, zi, eq_self, List.map_cons, List.map_nil, List.append_nil, List.nil_append, List.cons_append, Int32.reduceLT, Int32.reduceLE, Int32.reduceAdd, Int32.reduceSub, Int32.reduceMul, Int32.reduceToInt, Int32.reduceToNatClampNeg, Int.reduceLT, Int.reduceLE, Int.reduceNeg, true_and, and_true, or_self, or_false, false_or, false_and, and_false, true_or, or_true, if_true, if_false, ne_eq, Classical.not_not, not_true_eq_false, not_false_eq_true, true_implies, false_implies, implies_true, Nat.reduceEqDiff, Nat.reduceAdd, Nat.reduceLeDiff, Nat.reduceSub, reduceCtorEq, reduceIte, b150_32, nI_add]
      simp (disch := omega) only [nI_leN]
      refine ⟨fun _ => ?_, fun c => absurd (by omega) c⟩
      simp only [lv_args, z_v, z_lg, z_h, z_u, z_u1, z_c, z_ct, z_sk, sbne, lst1_d, ldel, lst2_d, ldel2, z_sw, z_rok, zi, eq_self, List.map_cons, List.map_nil, List.append_nil, List.nil_append, List.cons_append, Int32.reduceLT, Int32.reduceLE, Int32.reduceAdd, Int32.reduceSub, Int32.reduceMul, Int32.reduceToInt, Int32.reduceToNatClampNeg, Int.reduceLT, Int.reduceLE, Int.reduceNeg, true_and, and_true, or_self, or_false, false_or, false_and, and_false, true_or, or_true, if_true, if_false, ne_eq, Classical.not_not, not_true_eq_false, not_false_eq_true, true_implies, false_implies, implies_true, Nat.reduceEqDiff, Nat.reduceAdd, Nat.reduceLeDiff, Nat.reduceSub, reduceCtorEq, reduceIte, b150_74]
      exact hq
    | succ m ih =>
      intro i hi hj
      have hx := List.getElem?_eq_getElem (l := f l) (i := i) (by omega)
      obtain ⟨u1, u2⟩ := t3 i _ hx
      have hx2 := hf _ (List.getElem_mem (l := f l) (n := i) (by omega))
      have c44 : (248 * l + i < hN h 44) = True := eq_true u1
      simp only [lv_args, z_v, z_lg, z_h, z_u, z_u1, z_c, z_ct, z_sk, sbne, lst1_d, ldel, lst2_d, ldel2, z_sw, z_rok, zi, eq_self, List.map_cons, List.map_nil, List.append_nil, List.nil_append, List.cons_append, Int32.reduceLT, Int32.reduceLE, Int32.reduceAdd, Int32.reduceSub, Int32.reduceMul, Int32.reduceToInt, Int32.reduceToNatClampNeg, Int.reduceLT, Int.reduceLE, Int.reduceNeg, true_and, and_true, or_self, or_false, false_or, false_and, and_false, true_or, or_true, if_true, if_false, ne_eq, Classical.not_not, not_true_eq_false, not_false_eq_true, true_implies, false_implies, implies_true, Nat.reduceEqDiff, Nat.reduceAdd, Nat.reduceLeDiff, Nat.reduceSub, reduceCtorEq, reduceIte, b150_32, nI_add]
      simp (disch := omega) only [nI_leN]
      refine ⟨fun c => absurd c (by omega), fun _ => ?_⟩
      simp only [lv_args, z_v, z_lg, z_h, z_u, z_u1, z_c, z_ct, z_sk, sbne, lst1_d, ldel, lst2_d, ldel2, z_sw, z_rok, zi, eq_self, List.map_cons, List.map_nil, List.append_nil, List.nil_append, List.cons_append, Int32.reduceLT, Int32.reduceLE, Int32.reduceAdd, Int32.reduceSub, Int32.reduceMul, Int32.reduceToInt, Int32.reduceToNatClampNeg, Int.reduceLT, Int.reduceLE, Int.reduceNeg, true_and, and_true, or_self, or_false, false_or, false_and, and_false, true_or, or_true, if_true, if_false, ne_eq, Classical.not_not, not_true_eq_false, not_false_eq_true, true_implies, false_implies, implies_true, Nat.reduceEqDiff, Nat.reduceAdd, Nat.reduceLeDiff, Nat.reduceSub, reduceCtorEq, reduceIte, b150_41, skX s, srX s]
      simp (disch := omega) only [nI_leN]
      refine ⟨fun c => absurd c (by omega), fun _ => ?_⟩
      simp only [lv_args, z_v, z_lg, z_h, z_u, z_u1, z_c, z_ct, z_sk, sbne, lst1_d, ldel, lst2_d, ldel2, z_sw, z_rok, zi, eq_self, List.map_cons, List.map_nil, List.append_nil, List.nil_append, List.cons_append, Int32.reduceLT, Int32.reduceLE, Int32.reduceAdd, Int32.reduceSub, Int32.reduceMul, Int32.reduceToInt, Int32.reduceToNatClampNeg, Int.reduceLT, Int.reduceLE, Int.reduceNeg, true_and, and_true, or_self, or_false, false_or, false_and, and_false, true_or, or_true, if_true, if_false, ne_eq, Classical.not_not, not_true_eq_false, not_false_eq_true, true_implies, false_implies, implies_true, Nat.reduceEqDiff, Nat.reduceAdd, Nat.reduceLeDiff, Nat.reduceSub, reduceCtorEq, reduceIte, b150_51, skX s, srX s]
      simp (disch := omega) only [nI_ti, nI_cl, le0N, ltNN, c44, u2, nI_eqN, true_and]
      refine ⟨fun c => ?_, fun c => ?_⟩
      · have := ih (i + 1) (by omega) (fun j hj2 => by
          by_cases cj : j = i
          · subst cj
            rw [hx]
            exact fun e => c (by injection e)
          · exact hj j (by omega))
        simp only [lv_args, z_v, z_lg, z_h, z_u, z_u1, z_c, z_ct, z_sk, sbne, lst1_d, ldel, lst2_d, ldel2, z_sw, z_rok, zi, eq_self, List.map_cons, List.map_nil, List.append_nil, List.nil_append, List.cons_append, Int32.reduceLT, Int32.reduceLE, Int32.reduceAdd, Int32.reduceSub, Int32.reduceMul, Int32.reduceToInt, Int32.reduceToNatClampNeg, Int.reduceLT, Int.reduceLE, Int.reduceNeg, true_and, and_true, or_self, or_false, false_or, false_and, and_false, true_or, or_true, if_true, if_false, ne_eq, Classical.not_not, not_true_eq_false, not_false_eq_true, true_implies, false_implies, implies_true, Nat.reduceEqDiff, Nat.reduceAdd, Nat.reduceLeDiff, Nat.reduceSub, reduceCtorEq, reduceIte, b150_68, nI_1]
        exact this
      · rw [c] at hx
        rw [if_pos (List.mem_of_getElem? hx), idx_at hx hj] at hq
        have es : nI (248 * l + i) - nI (248 * l) = nI i := by
          rw [nI_sub (by omega)]
          congr 1
          omega
        simp only [lv_args, z_v, z_lg, z_h, z_u, z_u1, z_c, z_ct, z_sk, sbne, lst1_d, ldel, lst2_d, ldel2, z_sw, z_rok, zi, eq_self, List.map_cons, List.map_nil, List.append_nil, List.nil_append, List.cons_append, Int32.reduceLT, Int32.reduceLE, Int32.reduceAdd, Int32.reduceSub, Int32.reduceMul, Int32.reduceToInt, Int32.reduceToNatClampNeg, Int.reduceLT, Int.reduceLE, Int.reduceNeg, true_and, and_true, or_self, or_false, false_or, false_and, and_false, true_or, or_true, if_true, if_false, ne_eq, Classical.not_not, not_true_eq_false, not_false_eq_true, true_implies, false_implies, implies_true, Nat.reduceEqDiff, Nat.reduceAdd, Nat.reduceLeDiff, Nat.reduceSub, reduceCtorEq, reduceIte, b150_62, es]
        exact hq
  unfold aEv
  simp only [lv_args, z_v, z_lg, z_h, z_u, z_u1, z_c, z_ct, z_sk, sbne, lst1_d, ldel, lst2_d, ldel2, z_sw, z_rok, zi, eq_self, List.map_cons, List.map_nil, List.append_nil, List.nil_append, List.cons_append, Int32.reduceLT, Int32.reduceLE, Int32.reduceAdd, Int32.reduceSub, Int32.reduceMul, Int32.reduceToInt, Int32.reduceToNatClampNeg, Int.reduceLT, Int.reduceLE, Int.reduceNeg, true_and, and_true, or_self, or_false, false_or, false_and, and_false, true_or, or_true, if_true, if_false, ne_eq, Classical.not_not, not_true_eq_false, not_false_eq_true, true_implies, false_implies, implies_true, Nat.reduceEqDiff, Nat.reduceAdd, Nat.reduceLeDiff, Nat.reduceSub, reduceCtorEq, reduceIte, b150_0, x1]
  simp only [lv_args, z_v, z_lg, z_h, z_u, z_u1, z_c, z_ct, z_sk, sbne, lst1_d, ldel, lst2_d, ldel2, z_sw, z_rok, zi, eq_self, List.map_cons, List.map_nil, List.append_nil, List.nil_append, List.cons_append, Int32.reduceLT, Int32.reduceLE, Int32.reduceAdd, Int32.reduceSub, Int32.reduceMul, Int32.reduceToInt, Int32.reduceToNatClampNeg, Int.reduceLT, Int.reduceLE, Int.reduceNeg, true_and, and_true, or_self, or_false, false_or, false_and, and_false, true_or, or_true, if_true, if_false, ne_eq, Classical.not_not, not_true_eq_false, not_false_eq_true, true_implies, false_implies, implies_true, Nat.reduceEqDiff, Nat.reduceAdd, Nat.reduceLeDiff, Nat.reduceSub, reduceCtorEq, reduceIte, b150_4, z32, x2]
  simp only [lv_args, z_v, z_lg, z_h, z_u, z_u1, z_c, z_ct, z_sk, sbne, lst1_d, ldel, lst2_d, ldel2, z_sw, z_rok, zi, eq_self, List.map_cons, List.map_nil, List.append_nil, List.nil_append, List.cons_append, Int32.reduceLT, Int32.reduceLE, Int32.reduceAdd, Int32.reduceSub, Int32.reduceMul, Int32.reduceToInt, Int32.reduceToNatClampNeg, Int.reduceLT, Int.reduceLE, Int.reduceNeg, true_and, and_true, or_self, or_false, false_or, false_and, and_false, true_or, or_true, if_true, if_false, ne_eq, Classical.not_not, not_true_eq_false, not_false_eq_true, true_implies, false_implies, implies_true, Nat.reduceEqDiff, Nat.reduceAdd, Nat.reduceLeDiff, Nat.reduceSub, reduceCtorEq, reduceIte, b150_10, skX s, srX s]
  simp (disch := omega) only [nI_ti, nI_cl, le0N, ltNN, n45, b45, t1, true_and]
  simp only [lv_args, z_v, z_lg, z_h, z_u, z_u1, z_c, z_ct, z_sk, sbne, lst1_d, ldel, lst2_d, ldel2, z_sw, z_rok, zi, eq_self, List.map_cons, List.map_nil, List.append_nil, List.nil_append, List.cons_append, Int32.reduceLT, Int32.reduceLE, Int32.reduceAdd, Int32.reduceSub, Int32.reduceMul, Int32.reduceToInt, Int32.reduceToNatClampNeg, Int.reduceLT, Int.reduceLE, Int.reduceNeg, true_and, and_true, or_self, or_false, false_or, false_and, and_false, true_or, or_true, if_true, if_false, ne_eq, Classical.not_not, not_true_eq_false, not_false_eq_true, true_implies, false_implies, implies_true, Nat.reduceEqDiff, Nat.reduceAdd, Nat.reduceLeDiff, Nat.reduceSub, reduceCtorEq, reduceIte, b150_20, em2]
  exact loop (f l).length 0 (Nat.zero_add _) (fun j hj => absurd hj (Nat.not_lt_zero j))
theorem kp_lt (hk : KI z.2.1) (hl : (rSc z).length ≤ 248) {l : Nat} (h : l ≤ rBd z) : ∀ x, x ∈ rKp z l → x < (rSc z).length := fun x hx => ((hk.2.2 l h).2 x hx).1
theorem kpM_s {o m b : Nat} {f : Nat → List Nat} (ho : o < m) : kpM o (m + 1) b f = fun l => if l = m ∧ b ∉ f m then f m ++ [b] else kpM o m b f l := by
  funext l
  unfold kpM
  by_cases c : l = m
  · subst c
    by_cases c2 : b ∈ f l
    · rw [if_neg (fun w => w.2.2 c2), if_neg (fun w => w.2 c2), if_neg (fun w => w.2.2 c2)]
    · rw [if_pos ⟨ho, Nat.lt_succ_self _, c2⟩, if_pos ⟨rfl, c2⟩]
  · by_cases c2 : o < l ∧ l < m ∧ b ∉ f l
    · rw [if_pos (⟨c2.1, by omega, c2.2.2⟩ : o < l ∧ l < m + 1 ∧ b ∉ f l), if_neg (fun w : l = m ∧ b ∉ f m => c w.1), if_pos c2]
    · rw [if_neg (fun w : o < l ∧ l < m + 1 ∧ b ∉ f l => c2 ⟨w.1, by omega, w.2.2⟩), if_neg (fun w : l = m ∧ b ∉ f m => c w.1), if_neg c2]
theorem sp_keep {b o : Nat} (cc : CC N mt K p c1 c2 h0) (H : CH N K p c1 c2 h0 op z h) (hk : KI z.2.1) (hb : b < (rSc z).length) (ho : ((rSc z).getD b (0, 0, 0)).2.2 = o) (ho2 : o < rBd z) (hd : 5 < d) (hq : ∀ h', CH N K p c1 c2 h0 op (cKp b z) h' → Q (some (.int (nI ((rKp (cKp b z) (rBd z)).idxOf b)))) h') : aEv d 148 [.ref 40, .int (nI b)] h Q := by
  have h00 : 0 < d := by omega
  have z32 : (32 : Int32) = nI 32 := rfl
  have y44 : cpR 44 = 16000 := rfl
  have hp := cc.1
  have s0 := H.1.1.1.1
  have sc0 := H.1.2.2.2.2.1
  have hl248 := sc0.2.1
  have bd31 := sc0.2.2.2.2.2.1
  have eo : hA h 43 b = nI o := by
    have := (sc0.2.2.2.1 b _ (gdD (x := (0, 0, 0)) hb)).2.1
    rw [ho] at this; exact this
  have m43 := sc0.2.2.1.2.2
  have zE : cKp b z = zKp o (rBd z + 1) b z := by
    unfold cKp zKp kpM
    rw [ho]
    have : (fun l => if o < l ∧ l ≤ rBd z ∧ b ∉ rKp z l then rKp z l ++ [b] else rKp z l) = (fun l => if o < l ∧ l < rBd z + 1 ∧ b ∉ rKp z l then rKp z l ++ [b] else rKp z l) := by
      funext l
      by_cases cc : o < l ∧ l ≤ rBd z ∧ b ∉ rKp z l
      · rw [if_pos cc, if_pos ⟨cc.1, by omega, cc.2.2⟩]
      · rw [if_neg cc, if_neg (fun w => cc ⟨w.1, by omega, w.2.2⟩)]
    rw [this]
  have loop : ∀ r m h (T : ALS), (T = [] ∨ ∃ x, T = [(3, .int x)]) → m + r = rBd z + 1 → o < m → CH N K p c1 c2 h0 op (zKp o m b z) h → aWP d 148 8 ((2, .int (nI m)) :: (T ++ [(0, .ref 40), (1, .int (nI b))])) [] h Q := by
    intro r
    induction r with
    | zero =>
      intro m h T hT hm hom H
      have em : m = rBd z + 1 := by omega
      subst em
      have s := H.1.1.1.1
      have sc := H.1.2.2.2.2.1
      have n45 : hN h 45 = 32 := H.1.1.1.2.2.1.2 (45, 32) (by decide)
      have n44 : hN h 44 ≤ 1000000 := by have := (H.1.1.1.2.2.2.2 44 (by decide)).2; omega
      have e4 : hI h 40 4 = nI (rBd z) := sc.2.2.2.2.1
      have kp : KPx (kpM o (rBd z + 1) b (rKp z)) (rBd z) h := sc.2.2.2.2.2.2
      have hmem : b ∈ kpM o (rBd z + 1) b (rKp z) (rBd z) := by
        unfold kpM
        by_cases c : b ∈ rKp z (rBd z)
        · rw [if_neg (fun w => w.2.2 c)]; exact c
        · rw [if_pos ⟨ho2, Nat.lt_succ_self _, c⟩]; simp
      have fin := hq h (by rw [zE]; exact H)
      rw [zE] at fin
      have hlt : ∀ x, x ∈ kpM o (rBd z + 1) b (rKp z) (rBd z) → x < 100000 := fun x hx => by
        unfold kpM at hx
        split at hx
        · rcases List.mem_append.mp hx with hx | hx
          · have := kp_lt hk hl248 (Nat.le_refl _) x hx
            omega
          · simp only [List.mem_cons, List.not_mem_nil, or_false] at hx
            omega
        · have := kp_lt hk hl248 (Nat.le_refl _) x hx
          omega
      rcases hT with rfl | ⟨x, rfl⟩
      · simp only [List.nil_append, List.cons_append]
        simp only [lv_args, z_v, z_lg, z_h, z_u, z_u1, z_c, z_ct, z_sk, sbne, lst1_d, ldel, lst2_d, ldel2, z_sw, z_rok, zi, eq_self, List.map_cons, List.map_nil, List.append_nil, List.nil_append, List.cons_append, Int32.reduceLT, Int32.reduceLE, Int32.reduceAdd, Int32.reduceSub, Int32.reduceMul, Int32.reduceToInt, Int32.reduceToNatClampNeg, Int.reduceLT, Int.reduceLE, Int.reduceNeg, true_and, and_true, or_self, or_false, false_or, false_and, and_false, true_or, or_true, if_true, if_false, ne_eq, Classical.not_not, not_true_eq_false, not_false_eq_true, true_implies, false_implies, implies_true, Nat.reduceEqDiff, Nat.reduceAdd, Nat.reduceLeDiff, Nat.reduceSub, reduceCtorEq, reduceIte, b148_8, skX s, e4]
        simp (disch := omega) only [nI_ltN]
        refine ⟨fun _ => ?_, fun c => absurd (Nat.lt_succ_self _) c⟩
        simp only [lv_args, z_v, z_lg, z_h, z_u, z_u1, z_c, z_ct, z_sk, sbne, lst1_d, ldel, lst2_d, ldel2, z_sw, z_rok, zi, eq_self, List.map_cons, List.map_nil, List.append_nil, List.nil_append, List.cons_append, Int32.reduceLT, Int32.reduceLE, Int32.reduceAdd, Int32.reduceSub, Int32.reduceMul, Int32.reduceToInt, Int32.reduceToNatClampNeg, Int.reduceLT, Int.reduceLE, Int.reduceNeg, true_and, and_true, or_self, or_false, false_or, false_and, and_false, true_or, or_true, if_true, if_false, ne_eq, Classical.not_not, not_true_eq_false, not_false_eq_true, true_implies, false_implies, implies_true, Nat.reduceEqDiff, Nat.reduceAdd, Nat.reduceLeDiff, Nat.reduceSub, reduceCtorEq, reduceIte, b148_94, skX s, e4, h00]
        refine sp_kplace (f := kpM o (rBd z + 1) b (rKp z)) (bd := rBd z) s n45 n44 kp (Nat.le_refl _) bd31 (by omega) hlt ?_
        rw [if_pos hmem]
        simp only [lv_args, z_v, z_lg, z_h, z_u, z_u1, z_c, z_ct, z_sk, sbne, lst1_d, ldel, lst2_d, ldel2, z_sw, z_rok, zi, eq_self, List.map_cons, List.map_nil, List.append_nil, List.nil_append, List.cons_append, Int32.reduceLT, Int32.reduceLE, Int32.reduceAdd, Int32.reduceSub, Int32.reduceMul, Int32.reduceToInt, Int32.reduceToNatClampNeg, Int.reduceLT, Int.reduceLE, Int.reduceNeg, true_and, and_true, or_self, or_false, false_or, false_and, and_false, true_or, or_true, if_true, if_false, ne_eq, Classical.not_not, not_true_eq_false, not_false_eq_true, true_implies, false_implies, implies_true, Nat.reduceEqDiff, Nat.reduceAdd, Nat.reduceLeDiff, Nat.reduceSub, reduceCtorEq, reduceIte, b148_94, skX s, Nat.reduceLT]
        exact fin
      · simp only [List.nil_append, List.cons_append]
        simp only [lv_args, z_v, z_lg, z_h, z_u, z_u1, z_c, z_ct, z_sk, sbne, lst1_d, ldel, lst2_d, ldel2, z_sw, z_rok, zi, eq_self, List.map_cons, List.map_nil, List.append_nil, List.nil_append, List.cons_append, Int32.reduceLT, Int32.reduceLE, Int32.reduceAdd, Int32.reduceSub, Int32.reduceMul, Int32.reduceToInt, Int32.reduceToNatClampNeg, Int.reduceLT, Int.reduceLE, Int.reduceNeg, true_and, and_true, or_self, or_false, false_or, false_and, and_false, true_or, or_true, if_true, if_false, ne_eq, Classical.not_not, not_true_eq_false, not_false_eq_true, true_implies, false_implies, implies_true, Nat.reduceEqDiff, Nat.reduceAdd, Nat.reduceLeDiff, Nat.reduceSub, reduceCtorEq, reduceIte, b148_8, skX s, e4]
        simp (disch := omega) only [nI_ltN]
        refine ⟨fun _ => ?_, fun c => absurd (Nat.lt_succ_self _) c⟩
        simp only [lv_args, z_v, z_lg, z_h, z_u, z_u1, z_c, z_ct, z_sk, sbne, lst1_d, ldel, lst2_d, ldel2, z_sw, z_rok, zi, eq_self, List.map_cons, List.map_nil, List.append_nil, List.nil_append, List.cons_append, Int32.reduceLT, Int32.reduceLE, Int32.reduceAdd, Int32.reduceSub, Int32.reduceMul, Int32.reduceToInt, Int32.reduceToNatClampNeg, Int.reduceLT, Int.reduceLE, Int.reduceNeg, true_and, and_true, or_self, or_false, false_or, false_and, and_false, true_or, or_true, if_true, if_false, ne_eq, Classical.not_not, not_true_eq_false, not_false_eq_true, true_implies, false_implies, implies_true, Nat.reduceEqDiff, Nat.reduceAdd, Nat.reduceLeDiff, Nat.reduceSub, reduceCtorEq, reduceIte, b148_94, skX s, e4, h00]
        refine sp_kplace (f := kpM o (rBd z + 1) b (rKp z)) (bd := rBd z) s n45 n44 kp (Nat.le_refl _) bd31 (by omega) hlt ?_
        rw [if_pos hmem]
        simp only [lv_args, z_v, z_lg, z_h, z_u, z_u1, z_c, z_ct, z_sk, sbne, lst1_d, ldel, lst2_d, ldel2, z_sw, z_rok, zi, eq_self, List.map_cons, List.map_nil, List.append_nil, List.nil_append, List.cons_append, Int32.reduceLT, Int32.reduceLE, Int32.reduceAdd, Int32.reduceSub, Int32.reduceMul, Int32.reduceToInt, Int32.reduceToNatClampNeg, Int.reduceLT, Int.reduceLE, Int.reduceNeg, true_and, and_true, or_self, or_false, false_or, false_and, and_false, true_or, or_true, if_true, if_false, ne_eq, Classical.not_not, not_true_eq_false, not_false_eq_true, true_implies, false_implies, implies_true, Nat.reduceEqDiff, Nat.reduceAdd, Nat.reduceLeDiff, Nat.reduceSub, reduceCtorEq, reduceIte, b148_94, skX s, Nat.reduceLT]
        exact fin
    | succ r ih =>
      intro m h T hT hm hom H
      have s := H.1.1.1.1
      have cb := H.1.1.1
      have sc := H.1.2.2.2.2.1
      have n45 : hN h 45 = 32 := cb.2.2.1.2 (45, 32) (by decide)
      have n44 : hN h 44 ≤ 1000000 := by have := (cb.2.2.2.2 44 (by decide)).2; omega
      have e4 : hI h 40 4 = nI (rBd z) := sc.2.2.2.2.1
      have kp : KPx (kpM o m b (rKp z)) (rBd z) h := sc.2.2.2.2.2.2
      have ekm : kpM o m b (rKp z) m = rKp z m := if_neg (fun w => by omega)
      obtain ⟨t1, t2, t3⟩ := kp m (by omega)
      rw [ekm] at t1 t2 t3
      have hlt := kp_lt hk hl248 (l := m) (by omega)
      have c32 : (m < 32) = True := eq_true (by omega)
      have same : b ∈ rKp z m → CH N K p c1 c2 h0 op (zKp o (m + 1) b z) h := fun c => by
        have e : kpM o (m + 1) b (rKp z) = kpM o m b (rKp z) := by
          rw [kpM_s hom]
          funext l
          exact if_neg (fun w => w.2 c)
        unfold zKp
        rw [e]
        exact H
      have hlen : b ∉ rKp z m → (rKp z m).length < 248 := fun c => by
        have nd : (b :: rKp z m).Nodup := List.nodup_cons.mpr ⟨c, (hk.2.2 m (by show m ≤ rBd z; omega)).1⟩
        have := pige_nd (rSc z).length (b :: rKp z m) nd (fun x hx => by
          rcases List.mem_cons.mp hx with rfl | hx
          · exact hb
          · exact hlt x hx)
        simp only [List.length_cons] at this
        omega
      have addd : b ∉ rKp z m → ∀ h1, CH N K p c1 c2 h0 op (zKp o m b z) h1 → 248 * m + (rKp z m).length + 1 ≤ hN h1 44 → aWP d 148 71 [(3, .int (nI (248 * m + (rKp z m).length))), (2, .int (nI m)), (0, .ref 40), (1, .int (nI b))] [] h1 Q := by
        intro cm h1 H1 m1
        have hl2 := hlen cm
        have s1 := H1.1.1.1.1
        have n451 : hN h1 45 = 32 := H1.1.1.1.2.2.1.2 (45, 32) (by decide)
        obtain ⟨⟨⟨cb1, kx1⟩, nn, da, ft, sc1, pb, gx⟩, fm⟩ := H1
        obtain ⟨q1, q2, q3, q6, q7, q8, q9⟩ := sc1
        have q9 : KPx (kpM o m b (rKp z)) (rBd z) h1 := q9
        obtain ⟨t1', t2', t3'⟩ := q9 m (by omega)
        rw [ekm] at t1' t2' t3'
        have c44 : (248 * m + (rKp z m).length < hN h1 44) = True := eq_true (by omega)
        have H2 : CH N K p c1 c2 h0 op (zKp o (m + 1) b z) (pA (pA h1 44 (upd (hA h1 44) (248 * m + (rKp z m).length) (nI b))) 45 (upd (hA h1 45) m (nI ((rKp z m).length + 1)))) := by
          refine ⟨⟨⟨cb_a (cb_a cb1), kx_A (kx_A kx1 (by unfold XP; omega)) (by unfold XP; omega)⟩, nn, da, ft, ⟨q1, q2, q3, q6, q7, q8, ?_⟩, ?_, fun G => ?_⟩, fm⟩
          · show KPx (kpM o (m + 1) b (rKp z)) (rBd z) _
            intro l hl
            rw [kpM_s hom]
            obtain ⟨v1, v2, v3⟩ := q9 l hl
            show upd (hA h1 45) m (nI ((rKp z m).length + 1)) l = nI (if l = m ∧ b ∉ rKp z m then rKp z m ++ [b] else kpM o m b (rKp z) l).length ∧ (if l = m ∧ b ∉ rKp z m then rKp z m ++ [b] else kpM o m b (rKp z) l).length ≤ 248 ∧ ∀ j b' : Nat, (if l = m ∧ b ∉ rKp z m then rKp z m ++ [b] else kpM o m b (rKp z) l)[j]? = some b' → 248 * l + j < hN h1 44 ∧ upd (hA h1 44) (248 * m + (rKp z m).length) (nI b) (248 * l + j) = nI b'
            unfold upd
            by_cases cl : l = m
            · subst cl
              rw [if_pos rfl, if_pos ⟨rfl, cm⟩, List.length_append, List.length_singleton]
              refine ⟨rfl, by omega, fun j b' hj => ?_⟩
              rcases ap1_c hj with ⟨a1, a2⟩ | ⟨a1, rfl⟩
              · rw [if_neg (by omega)]
                exact t3' j b' a2
              · rw [if_pos (by omega)]
                exact ⟨by omega, rfl⟩
            · rw [if_neg cl, if_neg (fun w => cl w.1)]
              refine ⟨v1, v2, fun j b' hj => ?_⟩
              obtain ⟨w1, w2⟩ := v3 j b' hj
              have := g_lt hj
              rw [if_neg (by omega)]
              exact ⟨w1, w2⟩
          · rcases hp with rfl | rfl <;> exact pb
          · obtain ⟨g1, g2, g3, g4⟩ := gx G
            rcases hp with rfl | rfl <;> exact ⟨g1, g2, g3, g4⟩
        have nx := ih (m + 1) _ [(3, .int (nI (248 * m + (rKp z m).length)))] (Or.inr ⟨_, rfl⟩) (by omega) (by omega) H2
        simp only [lv_args, z_v, z_lg, z_h, z_u, z_u1, z_c, z_ct, z_sk, sbne, lst1_d, ldel, lst2_d, ldel2, z_sw, z_rok, zi, eq_self, List.map_cons, List.map_nil, List.append_nil, List.nil_append, List.cons_append, Int32.reduceLT, Int32.reduceLE, Int32.reduceAdd, Int32.reduceSub, Int32.reduceMul, Int32.reduceToInt, Int32.reduceToNatClampNeg, Int.reduceLT, Int.reduceLE, Int.reduceNeg, true_and, and_true, or_self, or_false, false_or, false_and, and_false, true_or, or_true, if_true, if_false, ne_eq, Classical.not_not, not_true_eq_false, not_false_eq_true, true_implies, false_implies, implies_true, Nat.reduceEqDiff, Nat.reduceAdd, Nat.reduceLeDiff, Nat.reduceSub, reduceCtorEq, reduceIte, b148_71, skX s1, srX s1, n451]
        simp (disch := omega) only [nI_ti, nI_cl, le0N, ltNN, c32, c44, t1', nI_s, true_and]
        try simp only [lv_args, z_v, z_lg, z_h, z_u, z_u1, z_c, z_ct, z_sk, sbne, lst1_d, ldel, lst2_d, ldel2, z_sw, z_rok, zi, eq_self, List.map_cons, List.map_nil, List.append_nil, List.nil_append, List.cons_append, Int32.reduceLT, Int32.reduceLE, Int32.reduceAdd, Int32.reduceSub, Int32.reduceMul, Int32.reduceToInt, Int32.reduceToNatClampNeg, Int.reduceLT, Int.reduceLE, Int.reduceNeg, true_and, and_true, or_self, or_false, false_or, false_and, and_false, true_or, or_true, if_true, if_false, ne_eq, Classical.not_not, not_true_eq_false, not_false_eq_true, true_implies, false_implies, implies_true, Nat.reduceEqDiff, Nat.reduceAdd, Nat.reduceLeDiff, Nat.reduceSub, reduceCtorEq, reduceIte, b148_71, b148_88, skX s1, srX s1, n451, nI_s]
        exact nx
      rcases hT with rfl | ⟨x, rfl⟩
      · simp only [List.nil_append, List.cons_append]
        simp only [lv_args, z_v, z_lg, z_h, z_u, z_u1, z_c, z_ct, z_sk, sbne, lst1_d, ldel, lst2_d, ldel2, z_sw, z_rok, zi, eq_self, List.map_cons, List.map_nil, List.append_nil, List.nil_append, List.cons_append, Int32.reduceLT, Int32.reduceLE, Int32.reduceAdd, Int32.reduceSub, Int32.reduceMul, Int32.reduceToInt, Int32.reduceToNatClampNeg, Int.reduceLT, Int.reduceLE, Int.reduceNeg, true_and, and_true, or_self, or_false, false_or, false_and, and_false, true_or, or_true, if_true, if_false, ne_eq, Classical.not_not, not_true_eq_false, not_false_eq_true, true_implies, false_implies, implies_true, Nat.reduceEqDiff, Nat.reduceAdd, Nat.reduceLeDiff, Nat.reduceSub, reduceCtorEq, reduceIte, b148_8, skX s, e4]
        simp (disch := omega) only [nI_ltN]
        refine ⟨fun c => absurd c (by omega), fun _ => ?_⟩
        simp only [lv_args, z_v, z_lg, z_h, z_u, z_u1, z_c, z_ct, z_sk, sbne, lst1_d, ldel, lst2_d, ldel2, z_sw, z_rok, zi, eq_self, List.map_cons, List.map_nil, List.append_nil, List.nil_append, List.cons_append, Int32.reduceLT, Int32.reduceLE, Int32.reduceAdd, Int32.reduceSub, Int32.reduceMul, Int32.reduceToInt, Int32.reduceToNatClampNeg, Int.reduceLT, Int.reduceLE, Int.reduceNeg, true_and, and_true, or_self, or_false, false_or, false_and, and_false, true_or, or_true, if_true, if_false, ne_eq, Classical.not_not, not_true_eq_false, not_false_eq_true, true_implies, false_implies, implies_true, Nat.reduceEqDiff, Nat.reduceAdd, Nat.reduceLeDiff, Nat.reduceSub, reduceCtorEq, reduceIte, b148_16, z32]
        simp (disch := omega) only [nI_leN]
        refine ⟨fun c => absurd c (by omega), fun _ => ?_⟩
        simp only [lv_args, z_v, z_lg, z_h, z_u, z_u1, z_c, z_ct, z_sk, sbne, lst1_d, ldel, lst2_d, ldel2, z_sw, z_rok, zi, eq_self, List.map_cons, List.map_nil, List.append_nil, List.nil_append, List.cons_append, Int32.reduceLT, Int32.reduceLE, Int32.reduceAdd, Int32.reduceSub, Int32.reduceMul, Int32.reduceToInt, Int32.reduceToNatClampNeg, Int.reduceLT, Int.reduceLE, Int.reduceNeg, true_and, and_true, or_self, or_false, false_or, false_and, and_false, true_or, or_true, if_true, if_false, ne_eq, Classical.not_not, not_true_eq_false, not_false_eq_true, true_implies, false_implies, implies_true, Nat.reduceEqDiff, Nat.reduceAdd, Nat.reduceLeDiff, Nat.reduceSub, reduceCtorEq, reduceIte, b148_22, skX s, h00]
        refine sp_kplace (f := kpM o m b (rKp z)) (bd := rBd z) s n45 n44 kp (by omega) (by omega) (by omega) (fun x hx => ?_) ?_
        · rw [ekm] at hx
          have := hlt x hx
          omega
        rw [ekm]
        simp only [lv_args, z_v, z_lg, z_h, z_u, z_u1, z_c, z_ct, z_sk, sbne, lst1_d, ldel, lst2_d, ldel2, z_sw, z_rok, zi, eq_self, List.map_cons, List.map_nil, List.append_nil, List.nil_append, List.cons_append, Int32.reduceLT, Int32.reduceLE, Int32.reduceAdd, Int32.reduceSub, Int32.reduceMul, Int32.reduceToInt, Int32.reduceToNatClampNeg, Int.reduceLT, Int.reduceLE, Int.reduceNeg, true_and, and_true, or_self, or_false, false_or, false_and, and_false, true_or, or_true, if_true, if_false, ne_eq, Classical.not_not, not_true_eq_false, not_false_eq_true, true_implies, false_implies, implies_true, Nat.reduceEqDiff, Nat.reduceAdd, Nat.reduceLeDiff, Nat.reduceSub, reduceCtorEq, reduceIte, b148_22, skX s, Nat.reduceLT]
        by_cases cm : b ∈ rKp z m
        · have ne : ¬ nI ((rKp z m).idxOf b) = -1 := nI_m1' (by have := List.idxOf_lt_length_iff.mpr cm; omega)
          have nx := ih (m + 1) h [] (Or.inl rfl) (by omega) (by omega) (same cm)
          rw [if_pos cm]
          simp only [ne, not_false_eq_true, true_imp_iff, false_imp_iff, and_true]
          simp only [lv_args, z_v, z_lg, z_h, z_u, z_u1, z_c, z_ct, z_sk, sbne, lst1_d, ldel, lst2_d, ldel2, z_sw, z_rok, zi, eq_self, List.map_cons, List.map_nil, List.append_nil, List.nil_append, List.cons_append, Int32.reduceLT, Int32.reduceLE, Int32.reduceAdd, Int32.reduceSub, Int32.reduceMul, Int32.reduceToInt, Int32.reduceToNatClampNeg, Int.reduceLT, Int.reduceLE, Int.reduceNeg, true_and, and_true, or_self, or_false, false_or, false_and, and_false, true_or, or_true, if_true, if_false, ne_eq, Classical.not_not, not_true_eq_false, not_false_eq_true, true_implies, false_implies, implies_true, Nat.reduceEqDiff, Nat.reduceAdd, Nat.reduceLeDiff, Nat.reduceSub, reduceCtorEq, reduceIte, b148_88, nI_s]
          exact nx
        · have hl2 := hlen cm
          have z248 : (248 : Int32) = nI 248 := rfl
          have l44 := (cb.2.2.2.2 44 (by decide)).2
          obtain ⟨H1, m1⟩ := ch_gro (r := 44) (n := 248 * m + (rKp z m).length + 1) cc H (by omega) (by omega) (by omega)
          rw [if_neg cm]
          simp only [not_true_eq_false, true_imp_iff, false_imp_iff, true_and]
          simp only [lv_args, z_v, z_lg, z_h, z_u, z_u1, z_c, z_ct, z_sk, sbne, lst1_d, ldel, lst2_d, ldel2, z_sw, z_rok, zi, eq_self, List.map_cons, List.map_nil, List.append_nil, List.nil_append, List.cons_append, Int32.reduceLT, Int32.reduceLE, Int32.reduceAdd, Int32.reduceSub, Int32.reduceMul, Int32.reduceToInt, Int32.reduceToNatClampNeg, Int.reduceLT, Int.reduceLE, Int.reduceNeg, true_and, and_true, or_self, or_false, false_or, false_and, and_false, true_or, or_true, if_true, if_false, ne_eq, Classical.not_not, not_true_eq_false, not_false_eq_true, true_implies, false_implies, implies_true, Nat.reduceEqDiff, Nat.reduceAdd, Nat.reduceLeDiff, Nat.reduceSub, reduceCtorEq, reduceIte, b148_32, skX s, srX s, n45]
          simp (disch := omega) only [nI_ti, nI_cl, le0N, ltNN, c32, t1, z248, nI_leN, true_and]
          refine ⟨fun c => absurd c (by omega), fun _ => ?_⟩
          simp only [lv_args, z_v, z_lg, z_h, z_u, z_u1, z_c, z_ct, z_sk, sbne, lst1_d, ldel, lst2_d, ldel2, z_sw, z_rok, zi, eq_self, List.map_cons, List.map_nil, List.append_nil, List.nil_append, List.cons_append, Int32.reduceLT, Int32.reduceLE, Int32.reduceAdd, Int32.reduceSub, Int32.reduceMul, Int32.reduceToInt, Int32.reduceToNatClampNeg, Int.reduceLT, Int.reduceLE, Int.reduceNeg, true_and, and_true, or_self, or_false, false_or, false_and, and_false, true_or, or_true, if_true, if_false, ne_eq, Classical.not_not, not_true_eq_false, not_false_eq_true, true_implies, false_implies, implies_true, Nat.reduceEqDiff, Nat.reduceAdd, Nat.reduceLeDiff, Nat.reduceSub, reduceCtorEq, reduceIte, b148_44, skX s, srX s, n45]
          simp (disch := omega) only [nI_ti, nI_cl, le0N, ltNN, c32, t1, em248, nI_s, true_and]
          refine grw_I (st := []) mm_148 dX9_keep_65 ml_9_40 dX9_keep_68 fl_9_21 rfl (by unfold finOK; decide +kernel) (by omega) s cb.2.1 cb.2.2 (s.1 40 (by decide)) (by decide) (s.2.1 40 5 rfl) (s.1 44 (by decide)) (by decide) (by decide) rt_s.2.2.2 (fun z hz q e => ?_) (by omega) (by omega) (addd cm _ H1 m1)
          simp only [List.mem_cons, List.not_mem_nil, or_false] at hz
          rcases hz with rfl | rfl | rfl | rfl
          · cases e
          · cases e
          · injection e with e
            subst e
            exact ⟨by decide, by decide⟩
          · cases e
      · simp only [List.nil_append, List.cons_append]
        simp only [lv_args, z_v, z_lg, z_h, z_u, z_u1, z_c, z_ct, z_sk, sbne, lst1_d, ldel, lst2_d, ldel2, z_sw, z_rok, zi, eq_self, List.map_cons, List.map_nil, List.append_nil, List.nil_append, List.cons_append, Int32.reduceLT, Int32.reduceLE, Int32.reduceAdd, Int32.reduceSub, Int32.reduceMul, Int32.reduceToInt, Int32.reduceToNatClampNeg, Int.reduceLT, Int.reduceLE, Int.reduceNeg, true_and, and_true, or_self, or_false, false_or, false_and, and_false, true_or, or_true, if_true, if_false, ne_eq, Classical.not_not, not_true_eq_false, not_false_eq_true, true_implies, false_implies, implies_true, Nat.reduceEqDiff, Nat.reduceAdd, Nat.reduceLeDiff, Nat.reduceSub, reduceCtorEq, reduceIte, b148_8, skX s, e4]
        simp (disch := omega) only [nI_ltN]
        refine ⟨fun c => absurd c (by omega), fun _ => ?_⟩
        simp only [lv_args, z_v, z_lg, z_h, z_u, z_u1, z_c, z_ct, z_sk, sbne, lst1_d, ldel, lst2_d, ldel2, z_sw, z_rok, zi, eq_self, List.map_cons, List.map_nil, List.append_nil, List.nil_append, List.cons_append, Int32.reduceLT, Int32.reduceLE, Int32.reduceAdd, Int32.reduceSub, Int32.reduceMul, Int32.reduceToInt, Int32.reduceToNatClampNeg, Int.reduceLT, Int.reduceLE, Int.reduceNeg, true_and, and_true, or_self, or_false, false_or, false_and, and_false, true_or, or_true, if_true, if_false, ne_eq, Classical.not_not, not_true_eq_false, not_false_eq_true, true_implies, false_implies, implies_true, Nat.reduceEqDiff, Nat.reduceAdd, Nat.reduceLeDiff, Nat.reduceSub, reduceCtorEq, reduceIte, b148_16, z32]
        simp (disch := omega) only [nI_leN]
        refine ⟨fun c => absurd c (by omega), fun _ => ?_⟩
        simp only [lv_args, z_v, z_lg, z_h, z_u, z_u1, z_c, z_ct, z_sk, sbne, lst1_d, ldel, lst2_d, ldel2, z_sw, z_rok, zi, eq_self, List.map_cons, List.map_nil, List.append_nil, List.nil_append, List.cons_append, Int32.reduceLT, Int32.reduceLE, Int32.reduceAdd, Int32.reduceSub, Int32.reduceMul, Int32.reduceToInt, Int32.reduceToNatClampNeg, Int.reduceLT, Int.reduceLE, Int.reduceNeg, true_and, and_true, or_self, or_false, false_or, false_and, and_false, true_or, or_true, if_true, if_false, ne_eq, Classical.not_not, not_true_eq_false, not_false_eq_true, true_implies, false_implies, implies_true, Nat.reduceEqDiff, Nat.reduceAdd, Nat.reduceLeDiff, Nat.reduceSub, reduceCtorEq, reduceIte, b148_22, skX s, h00]
        refine sp_kplace (f := kpM o m b (rKp z)) (bd := rBd z) s n45 n44 kp (by omega) (by omega) (by omega) (fun x hx => ?_) ?_
        · rw [ekm] at hx
          have := hlt x hx
          omega
        rw [ekm]
        simp only [lv_args, z_v, z_lg, z_h, z_u, z_u1, z_c, z_ct, z_sk, sbne, lst1_d, ldel, lst2_d, ldel2, z_sw, z_rok, zi, eq_self, List.map_cons, List.map_nil, List.append_nil, List.nil_append, List.cons_append, Int32.reduceLT, Int32.reduceLE, Int32.reduceAdd, Int32.reduceSub, Int32.reduceMul, Int32.reduceToInt, Int32.reduceToNatClampNeg, Int.reduceLT, Int.reduceLE, Int.reduceNeg, true_and, and_true, or_self, or_false, false_or, false_and, and_false, true_or, or_true, if_true, if_false, ne_eq, Classical.not_not, not_true_eq_false, not_false_eq_true, true_implies, false_implies, implies_true, Nat.reduceEqDiff, Nat.reduceAdd, Nat.reduceLeDiff, Nat.reduceSub, reduceCtorEq, reduceIte, b148_22, skX s, Nat.reduceLT]
        by_cases cm : b ∈ rKp z m
        · have ne : ¬ nI ((rKp z m).idxOf b) = -1 := nI_m1' (by have := List.idxOf_lt_length_iff.mpr cm; omega)
          have nx := ih (m + 1) h [(3, .int x)] (Or.inr ⟨x, rfl⟩) (by omega) (by omega) (same cm)
          rw [if_pos cm]
          simp only [ne, not_false_eq_true, true_imp_iff, false_imp_iff, and_true]
          simp only [lv_args, z_v, z_lg, z_h, z_u, z_u1, z_c, z_ct, z_sk, sbne, lst1_d, ldel, lst2_d, ldel2, z_sw, z_rok, zi, eq_self, List.map_cons, List.map_nil, List.append_nil, List.nil_append, List.cons_append, Int32.reduceLT, Int32.reduceLE, Int32.reduceAdd, Int32.reduceSub, Int32.reduceMul, Int32.reduceToInt, Int32.reduceToNatClampNeg, Int.reduceLT, Int.reduceLE, Int.reduceNeg, true_and, and_true, or_self, or_false, false_or, false_and, and_false, true_or, or_true, if_true, if_false, ne_eq, Classical.not_not, not_true_eq_false, not_false_eq_true, true_implies, false_implies, implies_true, Nat.reduceEqDiff, Nat.reduceAdd, Nat.reduceLeDiff, Nat.reduceSub, reduceCtorEq, reduceIte, b148_88, nI_s]
          exact nx
        · have hl2 := hlen cm
          have z248 : (248 : Int32) = nI 248 := rfl
          have l44 := (cb.2.2.2.2 44 (by decide)).2
          obtain ⟨H1, m1⟩ := ch_gro (r := 44) (n := 248 * m + (rKp z m).length + 1) cc H (by omega) (by omega) (by omega)
          rw [if_neg cm]
          simp only [not_true_eq_false, true_imp_iff, false_imp_iff, true_and]
          simp only [lv_args, z_v, z_lg, z_h, z_u, z_u1, z_c, z_ct, z_sk, sbne, lst1_d, ldel, lst2_d, ldel2, z_sw, z_rok, zi, eq_self, List.map_cons, List.map_nil, List.append_nil, List.nil_append, List.cons_append, Int32.reduceLT, Int32.reduceLE, Int32.reduceAdd, Int32.reduceSub, Int32.reduceMul, Int32.reduceToInt, Int32.reduceToNatClampNeg, Int.reduceLT, Int.reduceLE, Int.reduceNeg, true_and, and_true, or_self, or_false, false_or, false_and, and_false, true_or, or_true, if_true, if_false, ne_eq, Classical.not_not, not_true_eq_false, not_false_eq_true, true_implies, false_implies, implies_true, Nat.reduceEqDiff, Nat.reduceAdd, Nat.reduceLeDiff, Nat.reduceSub, reduceCtorEq, reduceIte, b148_32, skX s, srX s, n45]
          simp (disch := omega) only [nI_ti, nI_cl, le0N, ltNN, c32, t1, z248, nI_leN, true_and]
          refine ⟨fun c => absurd c (by omega), fun _ => ?_⟩
          simp only [lv_args, z_v, z_lg, z_h, z_u, z_u1, z_c, z_ct, z_sk, sbne, lst1_d, ldel, lst2_d, ldel2, z_sw, z_rok, zi, eq_self, List.map_cons, List.map_nil, List.append_nil, List.nil_append, List.cons_append, Int32.reduceLT, Int32.reduceLE, Int32.reduceAdd, Int32.reduceSub, Int32.reduceMul, Int32.reduceToInt, Int32.reduceToNatClampNeg, Int.reduceLT, Int.reduceLE, Int.reduceNeg, true_and, and_true, or_self, or_false, false_or, false_and, and_false, true_or, or_true, if_true, if_false, ne_eq, Classical.not_not, not_true_eq_false, not_false_eq_true, true_implies, false_implies, implies_true, Nat.reduceEqDiff, Nat.reduceAdd, Nat.reduceLeDiff, Nat.reduceSub, reduceCtorEq, reduceIte, b148_44, skX s, srX s, n45]
          simp (disch := omega) only [nI_ti, nI_cl, le0N, ltNN, c32, t1, em248, nI_s, true_and]
          refine grw_I (st := []) mm_148 dX9_keep_65 ml_9_40 dX9_keep_68 fl_9_21 rfl (by unfold finOK; decide +kernel) (by omega) s cb.2.1 cb.2.2 (s.1 40 (by decide)) (by decide) (s.2.1 40 5 rfl) (s.1 44 (by decide)) (by decide) (by decide) rt_s.2.2.2 (fun z hz q e => ?_) (by omega) (by omega) (addd cm _ H1 m1)
          simp only [List.mem_cons, List.not_mem_nil, or_false] at hz
          rcases hz with rfl | rfl | rfl | rfl
          · cases e
          · cases e
          · injection e with e
            subst e
            exact ⟨by decide, by decide⟩
          · cases e
  have fin := loop (rBd z - o) (o + 1) h [] (Or.inl rfl) (by omega) (by omega) (by
    have e : zKp o (o + 1) b z = z := by
      unfold zKp
      have : kpM o (o + 1) b (rKp z) = rKp z := by
        funext l
        exact if_neg (fun w => by omega)
      rw [this]
      rfl
    rw [e]; exact H)
  unfold aEv
  simp only [lv_args, z_v, z_lg, z_h, z_u, z_u1, z_c, z_ct, z_sk, sbne, lst1_d, ldel, lst2_d, ldel2, z_sw, z_rok, zi, eq_self, List.map_cons, List.map_nil, List.append_nil, List.nil_append, List.cons_append, Int32.reduceLT, Int32.reduceLE, Int32.reduceAdd, Int32.reduceSub, Int32.reduceMul, Int32.reduceToInt, Int32.reduceToNatClampNeg, Int.reduceLT, Int.reduceLE, Int.reduceNeg, true_and, and_true, or_self, or_false, false_or, false_and, and_false, true_or, or_true, if_true, if_false, ne_eq, Classical.not_not, not_true_eq_false, not_false_eq_true, true_implies, false_implies, implies_true, Nat.reduceEqDiff, Nat.reduceAdd, Nat.reduceLeDiff, Nat.reduceSub, reduceCtorEq, reduceIte, b148_0, skX s0, h00]
  refine sp_owner s0 sc0 hb ?_
  rw [ho]
  simp only [lv_args, z_v, z_lg, z_h, z_u, z_u1, z_c, z_ct, z_sk, sbne, lst1_d, ldel, lst2_d, ldel2, z_sw, z_rok, zi, eq_self, List.map_cons, List.map_nil, List.append_nil, List.nil_append, List.cons_append, Int32.reduceLT, Int32.reduceLE, Int32.reduceAdd, Int32.reduceSub, Int32.reduceMul, Int32.reduceToInt, Int32.reduceToNatClampNeg, Int.reduceLT, Int.reduceLE, Int.reduceNeg, true_and, and_true, or_self, or_false, false_or, false_and, and_false, true_or, or_true, if_true, if_false, ne_eq, Classical.not_not, not_true_eq_false, not_false_eq_true, true_implies, false_implies, implies_true, Nat.reduceEqDiff, Nat.reduceAdd, Nat.reduceLeDiff, Nat.reduceSub, reduceCtorEq, reduceIte, b148_0, skX s0, nI_s]
  exact fin
/-- where the body around finds what this body keeps -/
theorem sp_source {i b : Nat} (s : Sk h) (n45 : hN h 45 = 32) (n44 : hN h 44 ≤ 1000000) (sc : SCx z h) (hk : KI z.2.1) (hb1 : 1 ≤ rBd z) (hi : (rKp z (rBd z))[i]? = some b) (sl : gd c1 c2 z → ∀ (i : Nat) (e : SCe), (rSc z)[i]? = some e → hA h 42 i = nI e.2.1) (hd : 1 < d) (hq : ∀ x, (gd c1 c2 z → x = nI (cSo z b)) → Q (some (.int x)) h) : aEv d 153 [.ref 40, .int (nI i)] h Q := by
  have h00 : 0 < d := by omega
  have sc' := sc
  obtain ⟨s1, s2, ⟨q3, q4, q5⟩, s6, s7, s8, s9⟩ := sc
  obtain ⟨t1, t2, t3⟩ := s9 (rBd z) (Nat.le_refl _)
  obtain ⟨u1, u2⟩ := t3 i b hi
  have hil := g_lt hi
  obtain ⟨k1, k2, k3⟩ := (hk.2.2 (rBd z) (Nat.le_refl _)).2 b (List.mem_of_getElem? hi)
  have k1 : b < (rSc z).length := k1
  have hg := gdD (x := ((0, 0, 0) : SCe)) k1
  obtain ⟨w1, w2, w3⟩ := s6 b _ hg
  have ow1 : ow z.2.1 b = ((rSc z).getD b (0, 0, 0)).2.2 := rfl
  have c44 : (248 * rBd z + i < hN h 44) = True := eq_true u1
  have c43 : (b < hN h 43) = True := eq_true (by omega)
  have c42 : (b < hN h 42) = True := eq_true (by omega)
  have ez : nI (rBd z) - 1 = nI (rBd z - 1) := by
    have : rBd z = rBd z - 1 + 1 := by omega
    rw [this, nI_m1]; rfl
  have x1 : (nI (248 * rBd z + i) < 0) = False := nI_lt0 (by omega)
  unfold aEv
  simp only [lv_args, z_v, z_lg, z_h, z_u, z_u1, z_c, z_ct, z_sk, sbne, lst1_d, ldel, lst2_d, ldel2, z_sw, z_rok, zi, eq_self, List.map_cons, List.map_nil, List.append_nil, List.nil_append, List.cons_append, Int32.reduceLT, Int32.reduceLE, Int32.reduceAdd, Int32.reduceSub, Int32.reduceMul, Int32.reduceToInt, Int32.reduceToNatClampNeg, Int.reduceLT, Int.reduceLE, Int.reduceNeg, true_and, and_true, or_self, or_false, false_or, false_and, and_false, true_or, or_true, if_true, if_false, ne_eq, Classical.not_not, not_true_eq_false, not_false_eq_true, true_implies, false_implies, implies_true, Nat.reduceEqDiff, Nat.reduceAdd, Nat.reduceLeDiff, Nat.reduceSub, reduceCtorEq, reduceIte, b153_0, skX s, s7, em248, x1]
  simp only [lv_args, z_v, z_lg, z_h, z_u, z_u1, z_c, z_ct, z_sk, sbne, lst1_d, ldel, lst2_d, ldel2, z_sw, z_rok, zi, eq_self, List.map_cons, List.map_nil, List.append_nil, List.nil_append, List.cons_append, Int32.reduceLT, Int32.reduceLE, Int32.reduceAdd, Int32.reduceSub, Int32.reduceMul, Int32.reduceToInt, Int32.reduceToNatClampNeg, Int.reduceLT, Int.reduceLE, Int.reduceNeg, true_and, and_true, or_self, or_false, false_or, false_and, and_false, true_or, or_true, if_true, if_false, ne_eq, Classical.not_not, not_true_eq_false, not_false_eq_true, true_implies, false_implies, implies_true, Nat.reduceEqDiff, Nat.reduceAdd, Nat.reduceLeDiff, Nat.reduceSub, reduceCtorEq, reduceIte, b153_15, skX s, srX s]
  simp (disch := omega) only [nI_leN]
  refine ⟨fun c => absurd c (by omega), fun _ => ?_⟩
  simp only [lv_args, z_v, z_lg, z_h, z_u, z_u1, z_c, z_ct, z_sk, sbne, lst1_d, ldel, lst2_d, ldel2, z_sw, z_rok, zi, eq_self, List.map_cons, List.map_nil, List.append_nil, List.nil_append, List.cons_append, Int32.reduceLT, Int32.reduceLE, Int32.reduceAdd, Int32.reduceSub, Int32.reduceMul, Int32.reduceToInt, Int32.reduceToNatClampNeg, Int.reduceLT, Int.reduceLE, Int.reduceNeg, true_and, and_true, or_self, or_false, false_or, false_and, and_false, true_or, or_true, if_true, if_false, ne_eq, Classical.not_not, not_true_eq_false, not_false_eq_true, true_implies, false_implies, implies_true, Nat.reduceEqDiff, Nat.reduceAdd, Nat.reduceLeDiff, Nat.reduceSub, reduceCtorEq, reduceIte, b153_24, skX s, srX s]
  simp (disch := omega) only [nI_ti, nI_cl, le0N, ltNN, c44, u2, true_and]
  simp only [lv_args, z_v, z_lg, z_h, z_u, z_u1, z_c, z_ct, z_sk, sbne, lst1_d, ldel, lst2_d, ldel2, z_sw, z_rok, zi, eq_self, List.map_cons, List.map_nil, List.append_nil, List.nil_append, List.cons_append, Int32.reduceLT, Int32.reduceLE, Int32.reduceAdd, Int32.reduceSub, Int32.reduceMul, Int32.reduceToInt, Int32.reduceToNatClampNeg, Int.reduceLT, Int.reduceLE, Int.reduceNeg, true_and, and_true, or_self, or_false, false_or, false_and, and_false, true_or, or_true, if_true, if_false, ne_eq, Classical.not_not, not_true_eq_false, not_false_eq_true, true_implies, false_implies, implies_true, Nat.reduceEqDiff, Nat.reduceAdd, Nat.reduceLeDiff, Nat.reduceSub, reduceCtorEq, reduceIte, b153_34, skX s, h00]
  refine sp_owner s sc' k1 ?_
  simp only [lv_args, z_v, z_lg, z_h, z_u, z_u1, z_c, z_ct, z_sk, sbne, lst1_d, ldel, lst2_d, ldel2, z_sw, z_rok, zi, eq_self, List.map_cons, List.map_nil, List.append_nil, List.nil_append, List.cons_append, Int32.reduceLT, Int32.reduceLE, Int32.reduceAdd, Int32.reduceSub, Int32.reduceMul, Int32.reduceToInt, Int32.reduceToNatClampNeg, Int.reduceLT, Int.reduceLE, Int.reduceNeg, true_and, and_true, or_self, or_false, false_or, false_and, and_false, true_or, or_true, if_true, if_false, ne_eq, Classical.not_not, not_true_eq_false, not_false_eq_true, true_implies, false_implies, implies_true, Nat.reduceEqDiff, Nat.reduceAdd, Nat.reduceLeDiff, Nat.reduceSub, reduceCtorEq, reduceIte, b153_34, skX s, s7, ez]
  simp (disch := omega) only [nI_eqN]
  refine ⟨fun c => ?_, fun c => ?_⟩
  · simp only [lv_args, z_v, z_lg, z_h, z_u, z_u1, z_c, z_ct, z_sk, sbne, lst1_d, ldel, lst2_d, ldel2, z_sw, z_rok, zi, eq_self, List.map_cons, List.map_nil, List.append_nil, List.nil_append, List.cons_append, Int32.reduceLT, Int32.reduceLE, Int32.reduceAdd, Int32.reduceSub, Int32.reduceMul, Int32.reduceToInt, Int32.reduceToNatClampNeg, Int.reduceLT, Int.reduceLE, Int.reduceNeg, true_and, and_true, or_self, or_false, false_or, false_and, and_false, true_or, or_true, if_true, if_false, ne_eq, Classical.not_not, not_true_eq_false, not_false_eq_true, true_implies, false_implies, implies_true, Nat.reduceEqDiff, Nat.reduceAdd, Nat.reduceLeDiff, Nat.reduceSub, reduceCtorEq, reduceIte, b153_59, skX s, srX s, s7, ez, h00]
    have hbm : b ∈ rKp z (rBd z - 1) := by
      rcases k3 with k3 | k3
      · exact absurd (by rw [← ow1]; omega) c
      · exact k3
    refine sp_kplace (f := rKp z) (bd := rBd z) s n45 n44 s9 (by omega) (by omega) (by omega) (fun x hx => ?_) ?_
    · have := kp_lt hk s2 (l := rBd z - 1) (by omega) x hx
      omega
    rw [if_pos hbm]
    simp only [lv_args, z_v, z_lg, z_h, z_u, z_u1, z_c, z_ct, z_sk, sbne, lst1_d, ldel, lst2_d, ldel2, z_sw, z_rok, zi, eq_self, List.map_cons, List.map_nil, List.append_nil, List.nil_append, List.cons_append, Int32.reduceLT, Int32.reduceLE, Int32.reduceAdd, Int32.reduceSub, Int32.reduceMul, Int32.reduceToInt, Int32.reduceToNatClampNeg, Int.reduceLT, Int.reduceLE, Int.reduceNeg, true_and, and_true, or_self, or_false, false_or, false_and, and_false, true_or, or_true, if_true, if_false, ne_eq, Classical.not_not, not_true_eq_false, not_false_eq_true, true_implies, false_implies, implies_true, Nat.reduceEqDiff, Nat.reduceAdd, Nat.reduceLeDiff, Nat.reduceSub, reduceCtorEq, reduceIte, b153_59, b153_74, skX s, Nat.reduceLT]
    refine hq _ (fun G => ?_)
    unfold cSo
    rw [if_neg (by omega)]
    have e2 : (2 : Int32) * nI ((rKp z (rBd z - 1)).idxOf b) = nI (2 * (rKp z (rBd z - 1)).idxOf b) := (Int32.ofNat_mul 2 _).symm
    rw [e2, nI_s]
  · simp only [lv_args, z_v, z_lg, z_h, z_u, z_u1, z_c, z_ct, z_sk, sbne, lst1_d, ldel, lst2_d, ldel2, z_sw, z_rok, zi, eq_self, List.map_cons, List.map_nil, List.append_nil, List.nil_append, List.cons_append, Int32.reduceLT, Int32.reduceLE, Int32.reduceAdd, Int32.reduceSub, Int32.reduceMul, Int32.reduceToInt, Int32.reduceToNatClampNeg, Int.reduceLT, Int.reduceLE, Int.reduceNeg, true_and, and_true, or_self, or_false, false_or, false_and, and_false, true_or, or_true, if_true, if_false, ne_eq, Classical.not_not, not_true_eq_false, not_false_eq_true, true_implies, false_implies, implies_true, Nat.reduceEqDiff, Nat.reduceAdd, Nat.reduceLeDiff, Nat.reduceSub, reduceCtorEq, reduceIte, b153_49, skX s, h00]
    refine sp_slot s sc' k1 ?_
    simp only [lv_args, z_v, z_lg, z_h, z_u, z_u1, z_c, z_ct, z_sk, sbne, lst1_d, ldel, lst2_d, ldel2, z_sw, z_rok, zi, eq_self, List.map_cons, List.map_nil, List.append_nil, List.nil_append, List.cons_append, Int32.reduceLT, Int32.reduceLE, Int32.reduceAdd, Int32.reduceSub, Int32.reduceMul, Int32.reduceToInt, Int32.reduceToNatClampNeg, Int.reduceLT, Int.reduceLE, Int.reduceNeg, true_and, and_true, or_self, or_false, false_or, false_and, and_false, true_or, or_true, if_true, if_false, ne_eq, Classical.not_not, not_true_eq_false, not_false_eq_true, true_implies, false_implies, implies_true, Nat.reduceEqDiff, Nat.reduceAdd, Nat.reduceLeDiff, Nat.reduceSub, reduceCtorEq, reduceIte, b153_49, b153_74, skX s]
    refine hq _ (fun G => ?_)
    unfold cSo
    rw [if_pos (by omega), sl G b _ hg]
    exact (Int32.ofNat_mul 2 _).symm
/-- a lambda is added -/
theorem sp_addl {w : Nat} (cc : CC N mt K p c1 c2 h0) (H : CH N K p c1 c2 h0 op z h) (q1 : 120 ≤ (rLm z).length → Q (some (.int (-1))) h) (q2 : (rLm z).length < 120 → ∀ h', CH N K p c1 c2 h0 ((rLm z).length :: op) (cAl w z) h' → Q (some (.int (nI (rLm z).length))) h') : aEv d 95 [.ref p, .int (nI w)] h Q := by
  have hp := cc.1
  obtain ⟨⟨⟨cb, kx⟩, nn, da, ft, sc, ⟨pb1, pb2, ⟨pb3, pb4, pb8⟩, s, pb5, pb6, pb7⟩, gx⟩, fm⟩ := H
  have z120 : (120 : Int32) = nI 120 := rfl
  have len : (rLm (cAl w z)).length = (rLm z).length + 1 := by
    show (_ ++ [_]).length = _
    rw [List.length_append]; rfl
  rcases hp with rfl | rfl
  · have pb3 : hI h 19 12 = nI (rLm z).length := pb3
    have n5 : hN h 24 = 120 := cb.2.2.1.2 (24, 120) (by decide)
    rw [e95_19 _ _ cb.1, pb3, z120, nI_ltN (by omega) (by omega), nI_ti (by omega), nI_cl (by omega), n5, le0N, ltNN, nI_s, nI_m1]
    refine ⟨fun c => ⟨⟨trivial, c⟩, q2 c _ ⟨⟨⟨cb_i (cb_a cb), kx_I (kx_A kx (by unfold XP; omega)) (by unfold XP; omega)⟩, nn, da, ft, sc, ⟨pb1, pb2, ⟨by rw [len]; rfl, by omega, fun i hi => by
      rw [len]
      rcases List.mem_cons.mp hi with hi | hi
      · omega
      · have := pb8 i hi
        omega⟩, s, pb5, by rw [len, List.length_cons]; omega, pb7⟩, fun G => ?_⟩, fm⟩⟩, fun c => q1 (by omega)⟩
    obtain ⟨g1, g2, g3, g4, g5, g6, g7, g8, g9, g10⟩ := gx G
    refine ⟨g1, g2, g3, g4, g5, g6, g7, fun i e he => ?_, g9, g10⟩
    show upd (hA h 24) (rLm z).length (nI w) i = nI e.2.1 ∧ (i ∉ (rLm z).length :: op → hA h 23 i = nI e.1 ∧ hA h 25 i = nI e.2.2.1 ∧ hA h 26 i = nI e.2.2.2.1 ∧ hA h 27 i = nI e.2.2.2.2.length)
    unfold upd
    rcases ap1_c (l := rLm z) he with ⟨a1, a2⟩ | ⟨a1, rfl⟩
    · rw [if_neg (by omega)]
      obtain ⟨x1, x2⟩ := g8 i e a2
      exact ⟨x1, fun hi => x2 (fun c => hi (List.mem_cons_of_mem _ c))⟩
    · rw [if_pos a1]
      exact ⟨rfl, fun hi => absurd (by rw [a1]; exact List.mem_cons_self) hi⟩
  · have pb3 : hI h 29 12 = nI (rLm z).length := pb3
    have n5 : hN h 34 = 120 := cb.2.2.1.2 (34, 120) (by decide)
    rw [e95_29 _ _ cb.1, pb3, z120, nI_ltN (by omega) (by omega), nI_ti (by omega), nI_cl (by omega), n5, le0N, ltNN, nI_s, nI_m1]
    refine ⟨fun c => ⟨⟨trivial, c⟩, q2 c _ ⟨⟨⟨cb_i (cb_a cb), kx_I (kx_A kx (by unfold XP; omega)) (by unfold XP; omega)⟩, nn, da, ft, sc, ⟨pb1, pb2, ⟨by rw [len]; rfl, by omega, fun i hi => by
      rw [len]
      rcases List.mem_cons.mp hi with hi | hi
      · omega
      · have := pb8 i hi
        omega⟩, s, pb5, by rw [len, List.length_cons]; omega, pb7⟩, fun G => ?_⟩, fm⟩⟩, fun c => q1 (by omega)⟩
    obtain ⟨g1, g2, g3, g4, g5, g6, g7, g8, g9, g10⟩ := gx G
    refine ⟨g1, g2, g3, g4, g5, g6, g7, fun i e he => ?_, g9, g10⟩
    show upd (hA h 34) (rLm z).length (nI w) i = nI e.2.1 ∧ (i ∉ (rLm z).length :: op → hA h 33 i = nI e.1 ∧ hA h 35 i = nI e.2.2.1 ∧ hA h 36 i = nI e.2.2.2.1 ∧ hA h 37 i = nI e.2.2.2.2.length)
    unfold upd
    rcases ap1_c (l := rLm z) he with ⟨a1, a2⟩ | ⟨a1, rfl⟩
    · rw [if_neg (by omega)]
      obtain ⟨x1, x2⟩ := g8 i e a2
      exact ⟨x1, fun hi => x2 (fun c => hi (List.mem_cons_of_mem _ c))⟩
    · rw [if_pos a1]
      exact ⟨rfl, fun hi => absurd (by rw [a1]; exact List.mem_cons_self) hi⟩
end CKP
