/-! BUILD. readText, whole -/
section RDW
variable {h h' : Hp} {Q : Option Value → Hp → Prop} {d n : Nat} {t : Nat → Nat}
/-- text and length are set -/
theorem rt_0 {z : Nat} (c : CB h) (hz : hR h 3 12 = some z) (hn : n ≤ 3000) (h1 : hN h 1 = 3000) (hd : 60 < d) (hq : ∀ h', CB h' → hI h' 3 13 = nI n → hR h' 3 12 = some 1 → hN h' = hN h → hA h' = hA h → (∀ a i, ¬ (a = 3 ∧ i = 13) → hI h' a i = hI h a i) → aWP d 130 15 [(0, .ref 3), (1, .ref 1), (2, .int (nI n))] [] h' Q) : aEv d 130 [.ref 3, .ref 1, .int (nI n)] h Q := by
  have h0 : 0 < d := by omega
  obtain ⟨s, vy, rm⟩ := c
  have hsw : ¬ swOK h [(0, .ref 3), (1, .ref 1), (2, .int (nI n))] [] 3 12 z 1 := fun c => c.2.2.2.1 0 0 (s.2.1 0 0 rfl)
  have C1 : CB (pR h 3 12 (some 1)) := ⟨sk_vr rfl s, vy_vr (by omega) vy, rm_same rfl rfl rfl rm⟩
  have r1 : hR (pR h 3 12 (some 1)) 3 12 = some 1 := (up2_eq : up2 (hR h) 3 12 (some 1) 3 12 = some 1)
  have k1 : hK h 1 = 13 := s.1 1 (by decide)
  unfold aEv
  simp only [lv_args, z_v, z_lg, z_h, z_u, z_u1, z_c, z_ct, z_sk, sbne, lst1_d, ldel, lst2_d, ldel2, z_sw, z_rok, zi, eq_self, List.map_cons, List.map_nil, List.append_nil, List.nil_append, List.cons_append, Int32.reduceLT, Int32.reduceLE, Int32.reduceAdd, Int32.reduceSub, Int32.reduceMul, Int32.reduceToInt, Int32.reduceToNatClampNeg, Int.reduceLT, Int.reduceLE, Int.reduceNeg, true_and, and_true, or_self, or_false, false_or, false_and, and_false, true_or, or_true, if_true, if_false, ne_eq, Classical.not_not, not_true_eq_false, not_false_eq_true, true_implies, false_implies, implies_true, Nat.reduceEqDiff, Nat.reduceAdd, Nat.reduceLeDiff, Nat.reduceSub, reduceCtorEq, reduceIte, b130_0.1, b130_0.2.1]
  refine (k_putO (st := []) mm_130 dX7_readText_2 fl_7_48 rfl (by unfold finOK; decide +kernel) hz hsw).mpr ⟨⟨s.1 3 (by decide), by decide⟩, ?_⟩
  have n1 : hN (pR h 3 12 (some 1)) 1 = 3000 := h1
  have fin := hq (pI (pR h 3 12 (some 1)) 3 13 (nI n)) ⟨sk_u1 C1.1, C1.2.1, rm_same rfl rfl rfl C1.2.2⟩ rfl r1 rfl rfl (fun a i c => up2_ne (by omega))
  generalize pR h 3 12 (some 1) = H at *
  have s1 := C1.1
  have z3 : (nI 3000 : Int32) = 3000 := rfl
  have c0 : ((3000 : Int32) < nI n) = False := by rw [← z3, nI_ltN (by omega) (by omega)]; exact eq_false (by omega)
  simp only [lv_args, z_v, z_lg, z_h, z_u, z_u1, z_c, z_ct, z_sk, sbne, lst1_d, ldel, lst2_d, ldel2, z_sw, z_rok, zi, eq_self, List.map_cons, List.map_nil, List.append_nil, List.nil_append, List.cons_append, Int32.reduceLT, Int32.reduceLE, Int32.reduceAdd, Int32.reduceSub, Int32.reduceMul, Int32.reduceToInt, Int32.reduceToNatClampNeg, Int.reduceLT, Int.reduceLE, Int.reduceNeg, true_and, and_true, or_self, or_false, false_or, false_and, and_false, true_or, or_true, if_true, if_false, ne_eq, Classical.not_not, not_true_eq_false, not_false_eq_true, true_implies, false_implies, implies_true, Nat.reduceEqDiff, Nat.reduceAdd, Nat.reduceLeDiff, Nat.reduceSub, reduceCtorEq, reduceIte, b130_0.2.2.2, skX s1, h0, e285, n1, z3, c0, Nat.reduceLT]
  have s2 : Sk (pI H 3 13 (nI n)) := sk_u1 s1
  simp only [lv_args, z_v, z_lg, z_h, z_u, z_u1, z_c, z_ct, z_sk, sbne, lst1_d, ldel, lst2_d, ldel2, z_sw, z_rok, zi, eq_self, List.map_cons, List.map_nil, List.append_nil, List.nil_append, List.cons_append, Int32.reduceLT, Int32.reduceLE, Int32.reduceAdd, Int32.reduceSub, Int32.reduceMul, Int32.reduceToInt, Int32.reduceToNatClampNeg, Int.reduceLT, Int.reduceLE, Int.reduceNeg, true_and, and_true, or_self, or_false, false_or, false_and, and_false, true_or, or_true, if_true, if_false, ne_eq, Classical.not_not, not_true_eq_false, not_false_eq_true, true_implies, false_implies, implies_true, Nat.reduceEqDiff, Nat.reduceAdd, Nat.reduceLeDiff, Nat.reduceSub, reduceCtorEq, reduceIte, b130_0.2.2.2, skX s1, h0] at fin
  exact fin
theorem crn_x : ∀ (f p : Nat) (K : List KY) (mt : List Nat) (N : NS) (stk : List SE) (r : Option (Nat × Nat)) (K' : List KY) (mt' : List Nat) (N' : NS) (stk' : List SE), CRn t n f p K mt N stk r K' mt' N' stk' → p ≤ n → WS N stk → stk ≠ [] → N.1 ≤ 1 + 2 * p → stk' ≠ [] ∧ N'.1 ≤ 1 + 2 * n ∧ (∀ k x, r = some (k, x) → (k = 1 ∨ k = 2) ∧ x < n)
  | 0, _, _, _, _, _, _, _, _, _, _, h, _, _, _, _ => h.elim
  | f + 1, p, K, mt, N, stk, r, K', mt', N', stk', h, hp, ws, hne, hN => by
    rcases h with ⟨c1, rfl, rfl, rfl, rfl, rfl⟩ | ⟨c1, k, c2, cf, rfl, rfl, rfl, rfl, rfl⟩ | ⟨c1, p1, K1, mt1, N1, stk1, cg, cr⟩
    · exact ⟨hne, by omega, fun k x e => by cases e⟩
    · refine ⟨hne, by omega, fun k' x e => ?_⟩
      injection e with e
      injection e with e1 e2
      subst e1
      subst e2
      refine ⟨?_, c1⟩
      obtain ⟨_, _, ⟨_, _, w⟩ | ⟨_, ⟨_, _, w⟩ | ⟨_, _, _, w⟩⟩⟩ := cf
      · exact Or.inl w
      · exact Or.inr w
      · exact Or.inl w
    · obtain ⟨p1', p2⟩ := ctg_p c1 cg
      obtain ⟨w1, w2, _⟩ := ctg_n cg
      obtain ⟨ws1, hne1⟩ := ctg_ws ws cg hne
      exact crn_x f p1 K1 mt1 N1 stk1 r K' mt' N' stk' cr p2 ws1 hne1 (by omega)
/-- what a fault is in the two fields -/
def Ftd (r : Option (Nat × Nat)) (h : Hp) : Prop := (r = none → hI h 2 0 = 0) ∧ ∀ k f, r = some (k, f) → hI h 2 0 = nI k ∧ hI h 2 1 = nI f ∧ 0 < k ∧ k < 10 ∧ f ≤ 3000
theorem sp_readText {z : Nat} (c : CB h) (hz : hR h 3 12 = some z) (hn : n ≤ 3000) (h1 : hN h 1 = 3000) (ht : ∀ j, j < n → hA h 1 j = rb (t j)) (ht2 : ∀ j, t j < 256) (h20 : hI h 2 0 = 0) (hd : 70 < d) (hq : ∀ r K mt N stk h', RDt t n r K mt N stk → CB h' → hR h' 3 12 = some 1 → NT K mt h' → RNs N h' → N.1 ≤ 1 + 2 * n → Ftd r h' → (r = none → hI h' 2 1 = hI h 2 1) → Q none h') : aEv d 130 [.ref 3, .ref 1, .int (nI n)] h Q := by
  refine rt_0 c hz hn h1 (by omega) (fun ha ca i13 r12 na aa ia => ?_)
  have r : RT t n ha := ⟨i13, r12, by rw [na]; exact h1, hn, by rw [aa]; exact ht, ht2⟩
  refine rt_mid ca r ((ia 2 0 (by omega)).trans h20) (by omega) (fun h2 c2 r2 nt2 rmK rmN i7 e20 e21 => ?_)
  refine rt_30 c2 i7 (by omega) (by omega) (fun h3 rn3 rs3 F3 => ?_)
  have F3w := frw_r F3
  have c3 := frw_cb F3w c2
  have n3 : hN h3 = hN h2 := F3.2.2.1
  have l30 : K30.length = 30 := k30_len.2.2.2
  have ws0 : WS (nwN (0, fun _ => 0, fun _ => 0, fun _ => 0, fun _ => -1, fun _ => -1) 6 0 0) [(0, none, false)] := fun e he => by
    simp only [List.mem_cons, List.not_mem_nil, or_false] at he
    subst he
    exact ⟨Nat.lt_succ_self 0, fun x hx => by cases hx⟩
  have e30 : hI h3 2 0 = 0 := (F3w.2.2.2.2.2.2.1 2 0 (by decide) (by omega)).trans e20
  have e31 : hI h3 2 1 = hI h 2 1 := (F3w.2.2.2.2.2.2.1 2 1 (by decide) (by omega)).trans (e21.trans (ia 2 1 (by omega)))
  refine rt_loop (h0 := h3) (by omega) (by rw [n3]; exact rmK) (by rw [n3]; exact rmN) n 0 0 K30 [] _ [(0, none, false)] h3 (Nat.zero_add n) (Nat.le_refl _) frw_rf c3 (frw_rt F3w r2) (frr_nt F3 nt2) (by omega) (by omega) (fun _ _ => by omega) rn3 (Nat.le_refl _) rs3 (by simp) ws0 e30 (fun rr K' mt' N' stk' h4 x3 x4 cr F4 nt4 rn4 rs4 => ?_)
  obtain ⟨x1, x2, x3'⟩ := crn_x _ _ _ _ _ _ _ _ _ _ _ cr (Nat.zero_le _) ws0 (by simp) (Nat.le_refl _)
  have c4 := frw_cb F4 c3
  have s4 := c4.1
  have i13' : hI h4 3 13 = nI n := (frw_rt F4 (frw_rt F3w r2)).1
  have r12' : hR h4 3 12 = some 1 := (frw_rt F4 (frw_rt F3w r2)).2.1
  have e40 : hI h4 2 0 = 0 := (F4.2.2.2.2.2.2.1 2 0 (by decide) (by omega)).trans e30
  have e41 : hI h4 2 1 = hI h 2 1 := (F4.2.2.2.2.2.2.1 2 1 (by decide) (by omega)).trans e31
  refine ⟨fun hr => ?_, fun k f hr => ?_⟩
  · subst hr
    refine rt_end (K := K') (mt := mt') (N := N') (r0 := none) s4 (by omega) i13' x1 rs4 (Or.inl ⟨rfl, e40⟩) (fun hc => ?_) (fun _ hc => ?_)
    · rcases hc with ⟨x, hx⟩ | hc
      · cases hx
      · exact hq none K' mt' N' stk' h4 ⟨none, cr, Or.inr (Or.inl ⟨rfl, hc, rfl⟩)⟩ c4 r12' nt4 rn4 x2 ⟨fun _ => e40, fun k f e => by cases e⟩ (fun _ => e41)
    · refine hq (some (1, n)) K' mt' N' stk' _ ⟨none, cr, Or.inr (Or.inr ⟨rfl, hc, rfl⟩)⟩ ⟨sk_u1 (sk_u1 s4), c4.2.1, rm_same rfl rfl rfl c4.2.2⟩ r12' nt4 rn4 x2 ⟨fun e => (by cases e), fun k f e => ?_⟩ (fun e => by cases e)
      injection e with e
      injection e with e1 e2
      subst e1
      subst e2
      exact ⟨rfl, rfl, by decide, by decide, hn⟩
  · subst hr
    obtain ⟨y1, y2⟩ := x3' k f rfl
    have k0 : nI k ≠ 0 := fun e => by
      have := nI_inj (a := k) (b := 0) (by omega) (by omega) e
      omega
    refine rt_end (K := K') (mt := mt') (N := N') (stk := stk') (r0 := some (k, f)) (sk_u1 (sk_u1 s4)) (by omega) i13' x1 rs4 (Or.inr ⟨⟨_, rfl⟩, k0⟩) (fun _ => ?_) (fun e => by cases e)
    refine hq (some (k, f)) K' mt' N' stk' _ ⟨some (k, f), cr, Or.inl ⟨_, rfl, rfl⟩⟩ ⟨sk_u1 (sk_u1 s4), c4.2.1, rm_same rfl rfl rfl c4.2.2⟩ r12' nt4 rn4 x2 ⟨fun e => (by cases e), fun k' f' e => ?_⟩ (fun e => by cases e)
    injection e with e
    injection e with e1 e2
    subst e1
    subst e2
    exact ⟨rfl, rfl, by omega, by omega, by omega⟩
end RDW
