/-! BUILD. The reference's build, but for the exchange of programs -/
section BLH
variable {h : Hp} {Q : Option Value → Hp → Prop} {d n q : Nat} {t : Nat → Nat} {K2 : List KY} {mt2 : List Nat} {N : NS} {stk : List SE} {r : Option (Nat × Nat)}
theorem sp_refB {tp : Nat} (s : Sk h) (rm : Rm h) (yy : YY q h) (htp : tp ≤ 3000) (hnt : n ≤ tp) (e1 : hI h 59 1 = nI tp) (h60 : ∀ j, j < n → hA h 60 j = rb (t j)) (ht : ∀ j, t j < 256) (hR : RDt t n r K2 mt2 N stk) (hNb : N.1 ≤ 1 + 2 * n) (hrk : ∀ k p, r = some (k, p) → 0 < k ∧ k < 10) (hd : 500 < d)
    (q1 : ∀ k p, (r = some (k, p) ∨ (r = none ∧ rFl (cAll N mt2) = some (k, p))) → ∀ h', FrB q h h' → hI h' 59 1 = 0 → hI h' 59 2 = nI k → hI h' 59 3 = nI p → Q (some (.int (-1))) h')
    (q2 : r = none → rFl (cAll N mt2) = none → ∀ h' nw L, (L = [(2, .int (nI n)), (0, .ref 59), (1, .int (nI n))] ∨ L = [(0, .ref 59), (1, .int (nI n))]) → BK1 N mt2 nw → PM (gOf N mt2 nw) q h' → FrB q h h' → hI h' 59 1 = 0 → hI h' 59 2 = 0 → hI h' 59 3 = -1 → aWP d 290 162 L [] h' Q) : aEv d 290 [.ref 59, .int (nI n)] h Q := by
  have hq66 : q = 66 ∨ q = 86 := yy.elim (fun w => Or.inl w.1) (fun w => Or.inr w.1)
  have body : aWP d 290 15 [(0, .ref 59), (1, .int (nI n))] [] h Q := by
    refine sp_b15 s rm yy (by omega) h60 ht (by omega) (fun h1 F1 m1 i1 i13 i15 ec => ?_)
    refine sp_b67 m1 ec i13 i15 (by omega) hR hNb hd (fun h2 L hL F2 j1 hc => ?_)
    have F := fb_tr F1 F2
    have s2 := fb_sk F s
    have j1 : hI h2 59 1 = 0 := j1.trans i1
    have Ff : ∀ k p : Int32, FrB q h (pI (pI h2 59 2 k) 59 3 p) := fun k p => fb_I (fb_I F (by omega)) (by omega)
    rcases hc with ⟨k, p, hr, f13, f14, f15⟩ | ⟨hr, f13, mw, pm⟩
    · exact sp_b98f hL s2 (hrk k p hr) (Or.inl ⟨f13, f14⟩) (q1 k p (Or.inl hr) _ (Ff _ _) j1 rfl rfl)
    · subst hr
      obtain ⟨⟨nw0, bk⟩, tr, k6, lf, pq, _, nd, eC⟩ := bk_x s rm yy (by omega) ht hR hNb
      obtain ⟨nk, pl, ⟨g, g1, g2, fr⟩, _⟩ := bk
      have af := all_flt nk pl (by omega : g ≤ 38) (frs_sqn _ _ _ fr (by have := nk.2.2; omega))
      cases hf : rFl (cAll N mt2) with
      | none =>
        obtain ⟨nw, bk2, P⟩ := pm hf
        refine sp_b98n hL s2 f13 (mw.2.1 (af.2 hf)) (q2 rfl hf _ nw L hL bk2 ?_ (Ff _ _) j1 rfl rfl)
        have e : hI (pI (pI h2 59 2 0) 59 3 (-1)) q = hI h2 q := by rcases hq66 with rfl | rfl <;> rfl
        exact pm_same e (fun j hj => (⟨rfl, rfl⟩ : hA (pI (pI h2 59 2 0) 59 3 (-1)) (q + j) = hA h2 (q + j) ∧ hN (pI (pI h2 59 2 0) 59 3 (-1)) (q + j) = hN h2 (q + j))) P
      | some x =>
        obtain ⟨k, p⟩ := x
        obtain ⟨a1, a2, a3, a4, a5⟩ := mw.2.2 k p (af.1 k p hf)
        exact sp_b98f hL s2 ⟨a3, a4⟩ (Or.inr ⟨f13, a1, a2⟩) (q1 k p (Or.inr ⟨rfl, hf⟩) _ (Ff _ _) j1 rfl rfl)
  unfold aEv
  simp only [lv_args, z_v, z_lg, z_h, z_u, z_u1, z_c, z_ct, z_sk, sbne, lst1_d, ldel, lst2_d, ldel2, z_sw, z_rok, zi, eq_self, List.map_cons, List.map_nil, List.append_nil, List.nil_append, List.cons_append, Int32.reduceLT, Int32.reduceLE, Int32.reduceAdd, Int32.reduceSub, Int32.reduceMul, Int32.reduceToInt, Int32.reduceToNatClampNeg, Int.reduceLT, Int.reduceLE, Int.reduceNeg, true_and, and_true, or_self, or_false, false_or, false_and, and_false, true_or, or_true, if_true, if_false, ne_eq, Classical.not_not, not_true_eq_false, not_false_eq_true, true_implies, false_implies, implies_true, Nat.reduceEqDiff, Nat.reduceAdd, Nat.reduceLeDiff, Nat.reduceSub, reduceCtorEq, reduceIte, b290_0]
  simp (disch := omega) only [nI_lt0, false_imp_iff, not_false_eq_true, true_imp_iff, true_and]
  simp only [lv_args, z_v, z_lg, z_h, z_u, z_u1, z_c, z_ct, z_sk, sbne, lst1_d, ldel, lst2_d, ldel2, z_sw, z_rok, zi, eq_self, List.map_cons, List.map_nil, List.append_nil, List.nil_append, List.cons_append, Int32.reduceLT, Int32.reduceLE, Int32.reduceAdd, Int32.reduceSub, Int32.reduceMul, Int32.reduceToInt, Int32.reduceToNatClampNeg, Int.reduceLT, Int.reduceLE, Int.reduceNeg, true_and, and_true, or_self, or_false, false_or, false_and, and_false, true_or, or_true, if_true, if_false, ne_eq, Classical.not_not, not_true_eq_false, not_false_eq_true, true_implies, false_implies, implies_true, Nat.reduceEqDiff, Nat.reduceAdd, Nat.reduceLeDiff, Nat.reduceSub, reduceCtorEq, reduceIte, b290_4, skM s, e1]
  simp (disch := omega) only [nI_leN]
  exact ⟨fun _ => body, fun c => absurd hnt c⟩
end BLH
