/-! BUILD. The reader's loop -/
theorem cq_sub : ∀ (l : List SE) (e : SE), e ∈ cq l → e ∈ l
  | [], _, h => h
  | [_], _, h => h
  | a :: b :: l, e, h => by
    unfold cq at h
    split at h
    · exact List.mem_cons_of_mem _ (cq_sub (b :: l) e h)
    · exact h
theorem cq_ne : ∀ (l : List SE), l ≠ [] → cq l ≠ []
  | [], h => h
  | [_], h => h
  | a :: b :: l, h => by
    unfold cq
    split
    · exact cq_ne (b :: l) (by simp)
    · exact h
section RLP
variable {h h' : Hp} {Q : Option Value → Hp → Prop} {d n : Nat} {t : Nat → Nat} {N : NS} {stk : List SE} {K : List KY} {mt : List Nat}
theorem we_end : ∀ (m i : Nat), i + m = n → ¬ (we t n i < n ∧ isW (t (we t n i)) = true)
  | 0, i, hi => by
    rw [we_0 (by omega)]
    omega
  | m + 1, i, hi => by
    by_cases c : isW (t i) = true
    · rw [we_s (by omega) c]
      exact we_end m (i + 1) (by omega)
    · rw [we_0 (fun w => c w.2)]
      exact fun w => c w.2
theorem ctg_ws {p p' : Nat} {K' : List KY} {mt' : List Nat} {N' : NS} {stk' : List SE} (ws : WS N stk) (g : CTg t n p K mt N stk p' K' mt' N' stk') (hne : stk ≠ []) : WS N' stk' ∧ stk' ≠ [] := by
  rcases g with ⟨_, rfl, rfl, rfl, rfl⟩ | ⟨_, _, hw, rfl, k, v, e, l, wg, rfl, rfl, rfl⟩ | ⟨_, rfl, rfl, rfl, e, l, rfl, _, rfl, rfl⟩ | ⟨_, rfl, rfl, rfl, e, l, rfl, _, rfl, rfl⟩ | ⟨_, rfl, rfl, rfl, rfl, e, e', l, rfl, _, rfl⟩
  · exact ⟨ws, hne⟩
  · exact ⟨fun y hy => ws_ad (N := nwN N k v (nI p)) (Nat.lt_succ_self _) (ws_nw ws) y (cq_sub _ y hy), cq_ne _ (by simp)⟩
  · refine ⟨fun y hy => ?_, by simp⟩
    have e1 : (adN (nwN N 6 0 (nI p)) e N.1).1 = N.1 + 1 := adN_1
    rcases List.mem_cons.mp hy with rfl | hy
    · rw [e1]; exact ⟨Nat.lt_succ_self _, fun x hx => by cases hx⟩
    · exact ws_ad (N := nwN N 6 0 (nI p)) (Nat.lt_succ_self _) (ws_nw ws) y hy
  · refine ⟨?_, by simp⟩
    have e1 : (adN (nwN N 6 0 (nI p)) e N.1).1 = N.1 + 1 := adN_1
    have ws1 : WS (adN (nwN N 6 0 (nI p)) e N.1) ((N.1, none, true) :: (e.1, some N.1, e.2.2) :: l) := fun y hy => by
      rcases List.mem_cons.mp hy with rfl | hy
      · rw [e1]; exact ⟨Nat.lt_succ_self _, fun x hx => by cases hx⟩
      · exact ws_ad (N := nwN N 6 0 (nI p)) (Nat.lt_succ_self _) (ws_nw ws) y hy
    exact ws_ad (N := nwN (adN (nwN N 6 0 (nI p)) e N.1) 5 0 (nI p)) (e := (N.1, none, true)) (by show N.1 + 1 < (adN (nwN N 6 0 (nI p)) e N.1).1 + 1; rw [e1]; omega) (ws_nw ws1)
  · exact ⟨fun y hy => ws y (List.mem_cons_of_mem _ (cq_sub _ y hy)), cq_ne _ (by simp)⟩
theorem frw_rt (f : FrW h h') (r : RT t n h) : RT t n h' := by
  obtain ⟨f1, f2, f3, f4, f5, f6, f7, f8, f9, f10⟩ := f
  unfold RT at r ⊢
  rw [f7 3 13 (by omega) (by omega), f2, f3, f9 1 (by omega)]
  exact r
theorem frw_cb (f : FrW h h') (c : CB h) : CB h' := by
  obtain ⟨s, v, rm⟩ := c
  exact ⟨(sk_same f.1 f.2.1 f.2.2.2.1 : Sk _ = Sk h) ▸ s, by unfold Vy; rw [f.2.1]; exact v, rm_same f.2.2.1 f.2.2.2.1 f.2.2.2.2.1 rm⟩
theorem mt_le (nt : NT K mt h) : mt.length ≤ K.length := pige_nd _ _ nt.2.2.2.2.2.1.2.1 (fun x hx => nt.2.2.2.2.2.1.2.2 x hx)
/-- the loop, step by step; behind it either nothing is told or the fault is -/
theorem rt_loop {h0 : Hp} (hd : 50 < d) (rmK : n / 2 + 32 ≤ hN h0 5 ∧ n / 2 + 32 ≤ hN h0 6 ∧ n / 2 + 32 ≤ hN h0 7 ∧ n / 2 + 32 ≤ hN h0 8) (rmN : 1 + 2 * n ≤ hN h0 10 ∧ 1 + 2 * n ≤ hN h0 11 ∧ 1 + 2 * n ≤ hN h0 12 ∧ 1 + 2 * n ≤ hN h0 13 ∧ 1 + 2 * n ≤ hN h0 14) : ∀ (m p tok : Nat) (K : List KY) (mt : List Nat) (N : NS) (stk : List SE) (h : Hp), p + m = n → tok ≤ p → FrW h0 h → CB h → RT t n h → NT K mt h → 30 ≤ K.length → 2 * K.length ≤ p + 61 → (p < n → isW (t p) = true → 2 * K.length ≤ p + 60) → RNs N h → N.1 ≤ 1 + 2 * p → RSk stk h → stk ≠ [] → WS N stk → hI h 2 0 = 0 →
    (∀ r K' mt' N' stk' h1 x3 x4, CRn t n (m + 1) p K mt N stk r K' mt' N' stk' → FrW h0 h1 → NT K' mt' h1 → RNs N' h1 → RSk stk' h1 → (r = none → aWP d 130 107 [(4, .int x4), (3, .int x3), (0, .ref 3), (1, .ref 1), (2, .int (nI n))] [] h1 Q) ∧ ∀ k f, r = some (k, f) → aWP d 130 107 [(4, .int x4), (3, .int x3), (0, .ref 3), (1, .ref 1), (2, .int (nI n))] [] (pI (pI h1 2 0 (nI k)) 2 1 (nI f)) Q) → aWP d 130 68 [(4, .int (nI tok)), (3, .int (nI p)), (0, .ref 3), (1, .ref 1), (2, .int (nI n))] [] h Q := by
  have h00 : 0 < d := by omega
  have z10 : ¬ (1 : Int32) = 0 := by decide
  intro m
  induction m using Nat.strongRecOn with
  | _ m ih =>
    intro p tok K mt N stk h hpm htok F cb r nt hK30 hK1 hK2 rn hN1 rs hne ws h20 hq
    have s := cb.1
    have r1 := r.1
    have r4 := r.2.2.2.1
    simp only [lv_args, z_v, z_lg, z_h, z_u, z_u1, z_c, z_ct, z_sk, sbne, lst1_d, ldel, lst2_d, ldel2, z_sw, z_rok, zi, eq_self, List.map_cons, List.map_nil, List.append_nil, List.nil_append, List.cons_append, Int32.reduceLT, Int32.reduceLE, Int32.reduceAdd, Int32.reduceSub, Int32.reduceMul, Int32.reduceToInt, Int32.reduceToNatClampNeg, Int.reduceLT, Int.reduceLE, Int.reduceNeg, true_and, and_true, or_self, or_false, false_or, false_and, and_false, true_or, or_true, if_true, if_false, ne_eq, Classical.not_not, not_true_eq_false, not_false_eq_true, true_implies, false_implies, implies_true, Nat.reduceEqDiff, Nat.reduceAdd, Nat.reduceLeDiff, Nat.reduceSub, reduceCtorEq, reduceIte, b130_68, skX s, r1]
    by_cases hp : p < n
    · simp (disch := omega) only [nI_leN]
      refine ⟨fun c => absurd c (by omega), fun _ => ?_⟩
      simp only [lv_args, z_v, z_lg, z_h, z_u, z_u1, z_c, z_ct, z_sk, sbne, lst1_d, ldel, lst2_d, ldel2, z_sw, z_rok, zi, eq_self, List.map_cons, List.map_nil, List.append_nil, List.nil_append, List.cons_append, Int32.reduceLT, Int32.reduceLE, Int32.reduceAdd, Int32.reduceSub, Int32.reduceMul, Int32.reduceToInt, Int32.reduceToNatClampNeg, Int.reduceLT, Int.reduceLE, Int.reduceNeg, true_and, and_true, or_self, or_false, false_or, false_and, and_false, true_or, or_true, if_true, if_false, ne_eq, Classical.not_not, not_true_eq_false, not_false_eq_true, true_implies, false_implies, implies_true, Nat.reduceEqDiff, Nat.reduceAdd, Nat.reduceLeDiff, Nat.reduceSub, reduceCtorEq, reduceIte, b130_77, skX s, r1]
      simp (disch := omega) only [nI_leN]
      refine ⟨fun c => absurd c (by omega), fun _ => ?_⟩
      simp only [lv_args, z_v, z_lg, z_h, z_u, z_u1, z_c, z_ct, z_sk, sbne, lst1_d, ldel, lst2_d, ldel2, z_sw, z_rok, zi, eq_self, List.map_cons, List.map_nil, List.append_nil, List.nil_append, List.cons_append, Int32.reduceLT, Int32.reduceLE, Int32.reduceAdd, Int32.reduceSub, Int32.reduceMul, Int32.reduceToInt, Int32.reduceToNatClampNeg, Int.reduceLT, Int.reduceLE, Int.reduceNeg, true_and, and_true, or_self, or_false, false_or, false_and, and_false, true_or, or_true, if_true, if_false, ne_eq, Classical.not_not, not_true_eq_false, not_false_eq_true, true_implies, false_implies, implies_true, Nat.reduceEqDiff, Nat.reduceAdd, Nat.reduceLeDiff, Nat.reduceSub, reduceCtorEq, reduceIte, b130_85, skX s, srX s, h00, e32_2 _ _ s, h20, Nat.reduceLT, z10]
      have n1 := F.2.2.1
      have hmt := mt_le nt
      simp only [lv_args, z_v, z_lg, z_h, z_u, z_u1, z_c, z_ct, z_sk, sbne, lst1_d, ldel, lst2_d, ldel2, z_sw, z_rok, zi, eq_self, List.map_cons, List.map_nil, List.append_nil, List.nil_append, List.cons_append, Int32.reduceLT, Int32.reduceLE, Int32.reduceAdd, Int32.reduceSub, Int32.reduceMul, Int32.reduceToInt, Int32.reduceToNatClampNeg, Int.reduceLT, Int.reduceLE, Int.reduceNeg, true_and, and_true, or_self, or_false, false_or, false_and, and_false, true_or, or_true, if_true, if_false, ne_eq, Classical.not_not, not_true_eq_false, not_false_eq_true, true_implies, false_implies, implies_true, Nat.reduceEqDiff, Nat.reduceAdd, Nat.reduceLeDiff, Nat.reduceSub, reduceCtorEq, reduceIte, b130_95, skX s, h00]
      refine sp_behindToken s cb.2.2 r nt (by omega) rn rs hne ws (by rw [n1]; omega) (by omega) hp (by omega) h20 (fun hw => by have := hK2 hp hw; rw [n1]; omega) (by rw [n1]; omega) (by omega) (by omega) (fun k p' hk cf => ?_) (fun p' K' mt' N' stk' h1 cg nt1 rn1 rs1 F1 => ?_)
      · have fin := (hq (some (k, p)) K mt N stk h (nI p') (nI (tok + 1)) (Or.inr (Or.inl ⟨hp, k, hk, cf, rfl, rfl, rfl, rfl, rfl⟩)) F nt rn rs).2 k p rfl
        have k0 : ¬ nI k = 0 := fun e => by
          have e2 := nI_inj (a := k) (b := 0) (by omega) (by omega) e
          subst e2
          obtain ⟨_, _, ⟨_, _, w⟩ | ⟨_, ⟨_, _, w⟩ | ⟨_, _, _, w⟩⟩⟩ := cf
          · cases w
          · cases w
          · cases w
        have s1 : Sk (pI (pI h 2 0 (nI k)) 2 1 (nI p)) := sk_u1 (sk_u1 s)
        have e20 : hI (pI (pI h 2 0 (nI k)) 2 1 (nI p)) 2 0 = nI k := rfl
        simp only [lv_args, z_v, z_lg, z_h, z_u, z_u1, z_c, z_ct, z_sk, sbne, lst1_d, ldel, lst2_d, ldel2, z_sw, z_rok, zi, eq_self, List.map_cons, List.map_nil, List.append_nil, List.nil_append, List.cons_append, Int32.reduceLT, Int32.reduceLE, Int32.reduceAdd, Int32.reduceSub, Int32.reduceMul, Int32.reduceToInt, Int32.reduceToNatClampNeg, Int.reduceLT, Int.reduceLE, Int.reduceNeg, true_and, and_true, or_self, or_false, false_or, false_and, and_false, true_or, or_true, if_true, if_false, ne_eq, Classical.not_not, not_true_eq_false, not_false_eq_true, true_implies, false_implies, implies_true, Nat.reduceEqDiff, Nat.reduceAdd, Nat.reduceLeDiff, Nat.reduceSub, reduceCtorEq, reduceIte, b130_95, skX s, Nat.reduceLT, nI_1]
        simp only [lv_args, z_v, z_lg, z_h, z_u, z_u1, z_c, z_ct, z_sk, sbne, lst1_d, ldel, lst2_d, ldel2, z_sw, z_rok, zi, eq_self, List.map_cons, List.map_nil, List.append_nil, List.nil_append, List.cons_append, Int32.reduceLT, Int32.reduceLE, Int32.reduceAdd, Int32.reduceSub, Int32.reduceMul, Int32.reduceToInt, Int32.reduceToNatClampNeg, Int.reduceLT, Int.reduceLE, Int.reduceNeg, true_and, and_true, or_self, or_false, false_or, false_and, and_false, true_or, or_true, if_true, if_false, ne_eq, Classical.not_not, not_true_eq_false, not_false_eq_true, true_implies, false_implies, implies_true, Nat.reduceEqDiff, Nat.reduceAdd, Nat.reduceLeDiff, Nat.reduceSub, reduceCtorEq, reduceIte, b130_68, skX s, r1]
        refine ⟨fun _ => fin, fun _ => ?_⟩
        simp only [lv_args, z_v, z_lg, z_h, z_u, z_u1, z_c, z_ct, z_sk, sbne, lst1_d, ldel, lst2_d, ldel2, z_sw, z_rok, zi, eq_self, List.map_cons, List.map_nil, List.append_nil, List.nil_append, List.cons_append, Int32.reduceLT, Int32.reduceLE, Int32.reduceAdd, Int32.reduceSub, Int32.reduceMul, Int32.reduceToInt, Int32.reduceToNatClampNeg, Int.reduceLT, Int.reduceLE, Int.reduceNeg, true_and, and_true, or_self, or_false, false_or, false_and, and_false, true_or, or_true, if_true, if_false, ne_eq, Classical.not_not, not_true_eq_false, not_false_eq_true, true_implies, false_implies, implies_true, Nat.reduceEqDiff, Nat.reduceAdd, Nat.reduceLeDiff, Nat.reduceSub, reduceCtorEq, reduceIte, b130_77, skX s, r1]
        refine ⟨fun _ => fin, fun _ => ?_⟩
        simp only [lv_args, z_v, z_lg, z_h, z_u, z_u1, z_c, z_ct, z_sk, sbne, lst1_d, ldel, lst2_d, ldel2, z_sw, z_rok, zi, eq_self, List.map_cons, List.map_nil, List.append_nil, List.nil_append, List.cons_append, Int32.reduceLT, Int32.reduceLE, Int32.reduceAdd, Int32.reduceSub, Int32.reduceMul, Int32.reduceToInt, Int32.reduceToNatClampNeg, Int.reduceLT, Int.reduceLE, Int.reduceNeg, true_and, and_true, or_self, or_false, false_or, false_and, and_false, true_or, or_true, if_true, if_false, ne_eq, Classical.not_not, not_true_eq_false, not_false_eq_true, true_implies, false_implies, implies_true, Nat.reduceEqDiff, Nat.reduceAdd, Nat.reduceLeDiff, Nat.reduceSub, reduceCtorEq, reduceIte, b130_85, skX s, srX s, h00, e32_2 _ _ s1, k0, Nat.reduceLT]
        exact fin
      · obtain ⟨p1, p2⟩ := ctg_p hp cg
        obtain ⟨w1, w2, w3, w4, w5⟩ := ctg_n cg
        obtain ⟨ws1, hne1⟩ := ctg_ws ws cg hne
        have hv1 : hv h1 = hv h := F1.2.2.2.2.2.1
        have cb1 := frw_cb F1 cb
        have s1 := cb1.1
        have e20 : hI h1 2 0 = 0 := (F1.2.2.2.2.2.2.1 2 0 (by decide) (by omega)).trans h20
        have hKn : 2 * K'.length ≤ p' + 61 ∧ (p' < n → isW (t p') = true → 2 * K'.length ≤ p' + 60) := by
          by_cases cw : isW (t p) = true
          · have h2 := hK2 hp cw
            refine ⟨by omega, fun c1 c2 => ?_⟩
            exfalso
            rcases cg with ⟨⟨cg, _⟩ | ⟨_, cg, _⟩, _⟩ | ⟨_, _, _, rfl, _⟩ | ⟨cg, _⟩ | ⟨cg, _⟩ | ⟨cg, _⟩
            · rcases cg with cg | cg | cg <;> (rw [cg] at cw; exact absurd cw (by decide))
            · rw [cg] at cw; exact absurd cw (by decide)
            · exact we_end (t := t) (n - (p + 1)) (p + 1) (by omega) ⟨c1, c2⟩
            · rw [cg] at cw; exact absurd cw (by decide)
            · rw [cg] at cw; exact absurd cw (by decide)
            · rw [cg] at cw; exact absurd cw (by decide)
          · have cw' : isW (t p) = false := by simpa using cw
            rw [w5 cw']
            exact ⟨by omega, fun _ _ => by omega⟩
        have next := ih (n - p') (by omega) p' (tok + 1) K' mt' N' stk' h1 (by omega) (by omega) (frw_tr F F1) cb1 (frw_rt F1 r) nt1 (by omega) hKn.1 hKn.2 rn1 (by omega) rs1 hne1 ws1 e20 (fun r2 K2 mt2 N2 stk2 h2 x3 x4 cr => by
          refine hq r2 K2 mt2 N2 stk2 h2 x3 x4 ?_
          have mono : ∀ (f g : Nat), f ≤ g → ∀ {p K mt N stk}, CRn t n f p K mt N stk r2 K2 mt2 N2 stk2 → CRn t n g p K mt N stk r2 K2 mt2 N2 stk2 := by
            intro f
            induction f with
            | zero => intro g _ p K mt N stk hc; exact hc.elim
            | succ f ihf =>
              intro g hg p K mt N stk hc
              obtain ⟨g', rfl⟩ : ∃ g', g = g' + 1 := ⟨g - 1, by omega⟩
              rcases hc with hc | hc | ⟨a, b1, b2, b3, b4, b5, b6, b7⟩
              · exact Or.inl hc
              · exact Or.inr (Or.inl hc)
              · exact Or.inr (Or.inr ⟨a, b1, b2, b3, b4, b5, b6, ihf g' (by omega) b7⟩)
          exact Or.inr (Or.inr ⟨hp, p', K', mt', N', stk', cg, mono _ _ (by omega) cr⟩))
        simp only [lv_args, z_v, z_lg, z_h, z_u, z_u1, z_c, z_ct, z_sk, sbne, lst1_d, ldel, lst2_d, ldel2, z_sw, z_rok, zi, eq_self, List.map_cons, List.map_nil, List.append_nil, List.nil_append, List.cons_append, Int32.reduceLT, Int32.reduceLE, Int32.reduceAdd, Int32.reduceSub, Int32.reduceMul, Int32.reduceToInt, Int32.reduceToNatClampNeg, Int.reduceLT, Int.reduceLE, Int.reduceNeg, true_and, and_true, or_self, or_false, false_or, false_and, and_false, true_or, or_true, if_true, if_false, ne_eq, Classical.not_not, not_true_eq_false, not_false_eq_true, true_implies, false_implies, implies_true, Nat.reduceEqDiff, Nat.reduceAdd, Nat.reduceLeDiff, Nat.reduceSub, reduceCtorEq, reduceIte, b130_95, skX s, hv1, Nat.reduceLT, nI_1]
        exact next
    · have hpn : p = n := by omega
      subst hpn
      have fin := (hq none K mt N stk h (nI p) (nI tok) (Or.inl ⟨Nat.le_refl _, rfl, rfl, rfl, rfl, rfl⟩) F nt rn rs).1 rfl
      refine ⟨fun _ => fin, fun _ => ?_⟩
      simp only [lv_args, z_v, z_lg, z_h, z_u, z_u1, z_c, z_ct, z_sk, sbne, lst1_d, ldel, lst2_d, ldel2, z_sw, z_rok, zi, eq_self, List.map_cons, List.map_nil, List.append_nil, List.nil_append, List.cons_append, Int32.reduceLT, Int32.reduceLE, Int32.reduceAdd, Int32.reduceSub, Int32.reduceMul, Int32.reduceToInt, Int32.reduceToNatClampNeg, Int.reduceLT, Int.reduceLE, Int.reduceNeg, true_and, and_true, or_self, or_false, false_or, false_and, and_false, true_or, or_true, if_true, if_false, ne_eq, Classical.not_not, not_true_eq_false, not_false_eq_true, true_implies, false_implies, implies_true, Nat.reduceEqDiff, Nat.reduceAdd, Nat.reduceLeDiff, Nat.reduceSub, reduceCtorEq, reduceIte, b130_77, skX s, r1]
      simp (disch := omega) only [nI_leN]
      exact ⟨fun _ => fin, fun c => absurd (Nat.le_refl _) c⟩
end RLP
