/-! global -/
def Gl (D : VD) (p q : Nat) (h : Hp) : Prop := hN h 57 = 100 ∧ hN h 126 = 3000 ∧ ∃ dn, dn ≤ 100 ∧ hI h p 15 = nI dn ∧ hI h q 4 = nI dn ∧ ∀ i, i < dn → (vkd (hB h 57 i) = 9 ∧ hB h 126 i = vof 9 0) ∨ VR D (hB h 57 i) (hB h 126 i)
theorem vr_n9 {D : VD} {v w : Int64} (r : VR D v w) : vkd v ≠ 9 ∧ w ≠ vof 9 0 := by
  rcases r with ⟨k, c, k1, rfl, rfl, k2⟩ | ⟨i, i1, rfl, rfl⟩ | ⟨i, i1, rfl, rfl⟩ | ⟨i, i1, rfl, rfl⟩
  · rw [vof_kd]
    have : nI k ≠ 9 := fun e => by
      have := nI_inj (a := k) (b := 9) (by omega) (by omega) e
      omega
    exact ⟨this, fun e => this (vof_inj e).1⟩
  · rw [vof_kd]; exact ⟨by decide, fun e => absurd (vof_inj e).1 (by decide)⟩
  · rw [vof_kd]; exact ⟨by decide, fun e => absurd (vof_inj e).1 (by decide)⟩
  · rw [vof_kd]; exact ⟨by decide, fun e => absurd (vof_inj e).1 (by decide)⟩
theorem vof_90 : (38654705664 : Int64) = vof 9 0 := by decide
theorem vr_0 (D : VD) : VR D 0 0 := Or.inl ⟨0, 0, by decide, by decide, by decide, Or.inl rfl⟩
section GLB
variable {h : Hp} {Q : Option Value → Hp → Prop} {Mach : VD → Nat → Hp → Prop}
theorem sp_defd {d : Nat} (hd : 0 < d) (s : Sk h) (n57 : hN h 57 = 100) {i : Nat} (hi : i < 100) (q1 : vkd (hB h 57 i) = 9 → Q (some (.long 0)) h) (q2 : ¬ vkd (hB h 57 i) = 9 → Q (some (.long (hB h 57 i))) h) : aEv d 53 [.ref 47, .int (nI i)] h Q := by
  rw [e53_47 _ _ s]
  have hn := nI_small (n := i) (by omega)
  rw [hn.1, hn.2, n57]
  have c1 : ¬ nI i < 0 := fun c => by
    have := (nI_ltI (a := i) (b := 0) (by omega) (by omega)).mp c
    omega
  have c2 : ¬ 100 ≤ nI i := fun c => by
    have := (nI_leI (a := 100) (b := i) (by omega) (by omega)).mp c
    omega
  exact ⟨fun c => absurd c c1, fun _ => ⟨fun c => absurd c c2, fun _ => ⟨⟨by omega, by omega⟩, hd, q2, q1⟩⟩⟩
theorem sp_globX (s : Sk h) {p : Nat} (P : PgX p h) {a : Int32} (q0 : hI h 0 8 = 0 → Q (some (.int 0)) h) (q1 : a < 0 → Q (some (.int 0)) h) (q2 : ¬ a < hI h p 15 → Q (some (.int 0)) h) (q3 : ¬ hI h 0 8 = 0 → ¬ a < 0 → a < hI h p 15 → aEv 1398 53 [.ref 47, .int a] h (fun r h1 => h1 = h ∧ ∃ v, r = some (.long v) ∧ Q (some (.int 1)) (pL h 0 9 v))) : aEv 1399 166 [.ref 0, .int a] h Q := by
  unfold aEv
  rcases P with ⟨rfl, x6, x7⟩ | ⟨rfl, x6, x7⟩
  · simp only [lv_args, z_v, z_lg, z_h, z_u, z_u1, z_c, z_ct, z_sk, sbne, lst1_d, ldel, lst2_d, ldel2, z_sw, z_rok, zi, eq_self, List.map_cons, List.map_nil, List.append_nil, List.nil_append, List.cons_append, Int32.reduceLT, Int32.reduceLE, Int32.reduceAdd, Int32.reduceSub, Int32.reduceMul, Int32.reduceToInt, Int32.reduceToNatClampNeg, Int.reduceLT, Int.reduceLE, Int.reduceNeg, true_and, and_true, or_self, or_false, false_or, false_and, and_false, true_or, or_true, if_true, if_false, ne_eq, Classical.not_not, not_true_eq_false, not_false_eq_true, true_implies, false_implies, implies_true, Nat.reduceEqDiff, Nat.reduceAdd, Nat.reduceLeDiff, Nat.reduceSub, reduceCtorEq, reduceIte, b166_0, b166_7, b166_11, b166_22, skX s, srX s, x6]
    refine ⟨q0, fun c0 => ⟨q1, fun c1 => ⟨fun c2 => ?_, q2⟩⟩⟩
    simp only [lv_args, z_v, z_lg, z_h, z_u, z_u1, z_c, z_ct, z_sk, sbne, lst1_d, ldel, lst2_d, ldel2, z_sw, z_rok, zi, eq_self, List.map_cons, List.map_nil, List.append_nil, List.nil_append, List.cons_append, Int32.reduceLT, Int32.reduceLE, Int32.reduceAdd, Int32.reduceSub, Int32.reduceMul, Int32.reduceToInt, Int32.reduceToNatClampNeg, Int.reduceLT, Int.reduceLE, Int.reduceNeg, true_and, and_true, or_self, or_false, false_or, false_and, and_false, true_or, or_true, if_true, if_false, ne_eq, Classical.not_not, not_true_eq_false, not_false_eq_true, true_implies, false_implies, implies_true, Nat.reduceEqDiff, Nat.reduceAdd, Nat.reduceLeDiff, Nat.reduceSub, reduceCtorEq, reduceIte, Nat.reduceLT, b166_24, skX s, srX s]
    refine aEv_mono (q3 c0 c1 c2) ?_
    intro r h1 ⟨e, v, er, hq⟩
    subst e er
    simp only [lv_args, z_v, z_lg, z_h, z_u, z_u1, z_c, z_ct, z_sk, sbne, lst1_d, ldel, lst2_d, ldel2, z_sw, z_rok, zi, eq_self, List.map_cons, List.map_nil, List.append_nil, List.nil_append, List.cons_append, Int32.reduceLT, Int32.reduceLE, Int32.reduceAdd, Int32.reduceSub, Int32.reduceMul, Int32.reduceToInt, Int32.reduceToNatClampNeg, Int.reduceLT, Int.reduceLE, Int.reduceNeg, true_and, and_true, or_self, or_false, false_or, false_and, and_false, true_or, or_true, if_true, if_false, ne_eq, Classical.not_not, not_true_eq_false, not_false_eq_true, true_implies, false_implies, implies_true, Nat.reduceEqDiff, Nat.reduceAdd, Nat.reduceLeDiff, Nat.reduceSub, reduceCtorEq, reduceIte, Nat.reduceLT, b166_24, skX s, srX s]
    exact hq
  · simp only [lv_args, z_v, z_lg, z_h, z_u, z_u1, z_c, z_ct, z_sk, sbne, lst1_d, ldel, lst2_d, ldel2, z_sw, z_rok, zi, eq_self, List.map_cons, List.map_nil, List.append_nil, List.nil_append, List.cons_append, Int32.reduceLT, Int32.reduceLE, Int32.reduceAdd, Int32.reduceSub, Int32.reduceMul, Int32.reduceToInt, Int32.reduceToNatClampNeg, Int.reduceLT, Int.reduceLE, Int.reduceNeg, true_and, and_true, or_self, or_false, false_or, false_and, and_false, true_or, or_true, if_true, if_false, ne_eq, Classical.not_not, not_true_eq_false, not_false_eq_true, true_implies, false_implies, implies_true, Nat.reduceEqDiff, Nat.reduceAdd, Nat.reduceLeDiff, Nat.reduceSub, reduceCtorEq, reduceIte, b166_0, b166_7, b166_11, b166_22, skX s, srX s, x6]
    refine ⟨q0, fun c0 => ⟨q1, fun c1 => ⟨fun c2 => ?_, q2⟩⟩⟩
    simp only [lv_args, z_v, z_lg, z_h, z_u, z_u1, z_c, z_ct, z_sk, sbne, lst1_d, ldel, lst2_d, ldel2, z_sw, z_rok, zi, eq_self, List.map_cons, List.map_nil, List.append_nil, List.nil_append, List.cons_append, Int32.reduceLT, Int32.reduceLE, Int32.reduceAdd, Int32.reduceSub, Int32.reduceMul, Int32.reduceToInt, Int32.reduceToNatClampNeg, Int.reduceLT, Int.reduceLE, Int.reduceNeg, true_and, and_true, or_self, or_false, false_or, false_and, and_false, true_or, or_true, if_true, if_false, ne_eq, Classical.not_not, not_true_eq_false, not_false_eq_true, true_implies, false_implies, implies_true, Nat.reduceEqDiff, Nat.reduceAdd, Nat.reduceLeDiff, Nat.reduceSub, reduceCtorEq, reduceIte, Nat.reduceLT, b166_24, skX s, srX s]
    refine aEv_mono (q3 c0 c1 c2) ?_
    intro r h1 ⟨e, v, er, hq⟩
    subst e er
    simp only [lv_args, z_v, z_lg, z_h, z_u, z_u1, z_c, z_ct, z_sk, sbne, lst1_d, ldel, lst2_d, ldel2, z_sw, z_rok, zi, eq_self, List.map_cons, List.map_nil, List.append_nil, List.nil_append, List.cons_append, Int32.reduceLT, Int32.reduceLE, Int32.reduceAdd, Int32.reduceSub, Int32.reduceMul, Int32.reduceToInt, Int32.reduceToNatClampNeg, Int.reduceLT, Int.reduceLE, Int.reduceNeg, true_and, and_true, or_self, or_false, false_or, false_and, and_false, true_or, or_true, if_true, if_false, ne_eq, Classical.not_not, not_true_eq_false, not_false_eq_true, true_implies, false_implies, implies_true, Nat.reduceEqDiff, Nat.reduceAdd, Nat.reduceLeDiff, Nat.reduceSub, reduceCtorEq, reduceIte, Nat.reduceLT, b166_24, skX s, srX s]
    exact hq
theorem sp_globM (s : Sk h) {q : Nat} (P : PgM q h) {a : Int32} {n : Nat} (n126 : hN h 126 = 3000) (hn : n < 3000) (ha : a = nI n) (hI9 : ¬ hI h 59 19 = 0) (hlt : a < hI h q 4) (q1 : hB h 126 n = vof 9 0 → Q (some (.int 1)) (pL h 59 63 0)) (q2 : ¬ hB h 126 n = vof 9 0 → Q (some (.int 1)) (pL h 59 63 (hB h 126 n))) : aEv 1399 211 [.ref 59, .int a] h Q := by
  have hs := nI_small (n := n) (by omega)
  have c1 : ¬ a < 0 := fun c => by
    rw [ha] at c
    have := (nI_ltI (a := n) (b := 0) (by omega) (by omega)).mp c
    omega
  rw [← vof_90] at q1 q2
  have hb : 0 ≤ a.toInt ∧ a.toInt < 3000 := by rw [ha, hs.1]; omega
  have hc : a.toNatClampNeg = n := by rw [ha, hs.2]
  rcases P with ⟨rfl, x6, x7⟩ | ⟨rfl, x6, x7⟩
  · rw [e211_59a _ _ s x6 x7, n126, hc]
    simp only [cmp_0]
    exact ⟨fun c => absurd c hI9, fun _ => ⟨fun c => absurd c c1, fun _ => ⟨fun _ => ⟨hb, fun c => ⟨hb, q2 c⟩, q1⟩, fun c => absurd hlt c⟩⟩⟩
  · rw [e211_59b _ _ s x6 x7, n126, hc]
    simp only [cmp_0]
    exact ⟨fun c => absurd c hI9, fun _ => ⟨fun c => absurd c c1, fun _ => ⟨fun _ => ⟨hb, fun c => ⟨hb, q2 c⟩, q1⟩, fun c => absurd hlt c⟩⟩⟩
theorem sp_globN (s : Sk h) {q : Nat} (P : PgM q h) {a : Int32} (hc : hI h 59 19 = 0 ∨ a < 0 ∨ ¬ a < hI h q 4) (n126 : hN h 126 = 3000) (hq : Q (some (.int 0)) h) : aEv 1399 211 [.ref 59, .int a] h Q := by
  rcases P with ⟨rfl, x6, x7⟩ | ⟨rfl, x6, x7⟩
  · rw [e211_59a _ _ s x6 x7]
    refine ⟨fun _ => hq, fun c => ⟨fun _ => hq, fun c1 => ⟨fun c2 => ?_, fun _ => hq⟩⟩⟩
    rcases hc with g | g | g
    · exact absurd g c
    · exact absurd g c1
    · exact absurd c2 g
  · rw [e211_59b _ _ s x6 x7]
    refine ⟨fun _ => hq, fun c => ⟨fun _ => hq, fun c1 => ⟨fun c2 => ?_, fun _ => hq⟩⟩⟩
    rcases hc with g | g | g
    · exact absurd g c
    · exact absurd g c1
    · exact absurd c2 g
theorem op_global (hM : CoM Mach) (hS : ∀ D k h, Mach D k h → ∃ p q, PgX p h ∧ PgM q h ∧ Cn p q h ∧ hN h 126 = 3000 ∧ (¬ hI h 59 19 = 0 → Gl D p q h)) : OpS (InvC (CoreM Mach)) 166 211 1 := by
  intro k h As hk hi hl hv
  obtain ⟨z, rfl⟩ := as_1 hl hv
  have up := inv_up (coc_of hM) hi
  obtain ⟨s, i2, i3, i4, i5, i6, D, J, ⟨p1, p2, p3, p4⟩, m⟩ := hi
  obtain ⟨p, q, g1, g2, g3, n126, g4⟩ := hS D k h m
  have fin : ∀ v w, VR D v w → InvC (CoreM Mach) (k + 1) (pL (pL h 0 9 v) 59 63 w) := fun v w r => by
    refine ⟨(sk_same rfl rfl rfl : Sk _ = Sk h) ▸ s, i2, i3, i4, i5, i6, D, J, ⟨r, p2, p3, p4⟩, hM D k h _ ?_ m⟩
    refine ⟨rfl, rfl, rfl, rfl, rfl, fun a b c1 c2 => ?_, fun _ _ _ => rfl, fun _ _ _ _ _ => rfl, fun _ _ _ _ _ _ _ => rfl⟩
    show (if a = 59 ∧ b = 63 then w else if a = 0 ∧ b = 9 then v else hL h a b) = hL h a b
    rw [if_neg c2, if_neg c1]
  have no : hI h 59 19 = 0 ∨ z < 0 ∨ ¬ z < hI h q 4 → aEv 1399 211 (.ref 59 :: [.int z]) h (fun r2 h2 => r2 = some (.int 0) ∧ InvC (CoreM Mach) (k + 1) h2) := fun c => sp_globN s g2 c n126 ⟨rfl, up⟩
  have e15 : ¬ hI h 59 19 = 0 → hI h p 15 = hI h q 4 := fun c => (g3.2.1 c).2.2.1
  have e15' : hI h 59 19 = 0 ∨ hI h p 15 = hI h q 4 := by
    by_cases c : hI h 59 19 = 0
    · exact Or.inl c
    · exact Or.inr (e15 c)
  refine sp_globX s g1 (fun c => ⟨_, rfl, no (Or.inl (i6 ▸ c))⟩) (fun c => ⟨_, rfl, no (Or.inr (Or.inl c))⟩) (fun c => ⟨_, rfl, no ?_⟩) (fun c0 c1 c2 => ?_)
  · rcases e15' with g | g
    · exact Or.inl g
    · exact Or.inr (Or.inr (g ▸ c))
  · rw [i6] at c0
    obtain ⟨n57, _, dn, d1, d2, d3, d4⟩ := g4 c0
    have hd := nI_small (n := dn) (by omega)
    have h0 : 0 ≤ z.toInt := by
      rw [Int32.lt_iff_toInt_lt] at c1
      have : (0 : Int32).toInt = 0 := rfl
      omega
    have h1 : z.toInt < dn := by
      rw [d2, Int32.lt_iff_toInt_lt, hd.1] at c2
      exact c2
    obtain ⟨n, hn⟩ : ∃ n : Nat, z.toInt = n := ⟨z.toInt.toNat, by omega⟩
    have hz : z = nI n := Int32.toInt_inj.mp (by rw [nI_toInt (by omega)]; exact hn)
    have c2' : z < hI h q 4 := by rw [d3, ← d2]; exact c2
    rw [hz]
    refine sp_defd (by decide) s n57 (by omega) (fun v9 => ⟨rfl, _, rfl, _, rfl, ?_⟩) (fun v9 => ⟨rfl, _, rfl, _, rfl, ?_⟩)
    · have w9 : hB h 126 n = vof 9 0 := by
        rcases d4 n (by omega) with g | g
        · exact g.2
        · exact absurd v9 (vr_n9 g).1
      exact sp_globM (h := pL h 0 9 0) ((sk_same rfl rfl rfl : Sk _ = Sk h) ▸ s) g2 n126 (by omega) rfl c0 (hz ▸ c2') (fun _ => ⟨rfl, fin _ _ (vr_0 D)⟩) (fun c => absurd w9 c)
    · have r : VR D (hB h 57 n) (hB h 126 n) := by
        rcases d4 n (by omega) with g | g
        · exact absurd g.1 v9
        · exact g
      exact sp_globM (h := pL h 0 9 (hB h 57 n)) ((sk_same rfl rfl rfl : Sk _ = Sk h) ▸ s) g2 n126 (by omega) rfl c0 (hz ▸ c2') (fun c => absurd c (vr_n9 r).2) (fun _ => ⟨rfl, fin _ _ r⟩)
end GLB
