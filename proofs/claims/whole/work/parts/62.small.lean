/-! feed as a pair of calls -/
section OPF
variable {Core : Nat → Hp → Prop}
theorem by20_b {a b c e f : Int32} (j : Nat) : ∃ v : Int8, (by20 a b c e f).getD j 0 = v.toInt32 := by
  have key : ∀ x, x ∈ by20 a b c e f → ∃ v : Int8, x = v.toInt32 := by
    intro x hx
    unfold by20 by4 tpB at hx
    simp only [List.cons_append, List.nil_append, List.mem_cons, List.not_mem_nil, or_false] at hx
    rcases hx with h | h | h | h | h | h | h | h | h | h | h | h | h | h | h | h | h | h | h | h <;> exact ⟨_, h⟩
  rw [List.getD_eq_getElem?_getD]
  cases h : (by20 a b c e f)[j]? with
  | none => exact ⟨0, by decide⟩
  | some x => exact key x (List.mem_of_getElem? h)
theorem op_feed (hC : CoC Core) : OpS (InvC Core) 165 203 5 := by
  intro k h As hk hi hl hv
  obtain ⟨a, b, c, e, f, rfl⟩ := as_5 hl hv
  have up := inv_up hC hi
  obtain ⟨s, ⟨t, t1, t2, t3, t4, t5, t6⟩, i3, i4, i5, i6, i7⟩ := hi
  refine sp_feedX s t2 t1 t5 (fun q => ⟨_, rfl, sp_feedM s t3 t1 t6 (fun _ => ⟨rfl, up⟩) (fun c => absurd c (by omega))⟩) (fun q => ⟨_, rfl, ?_⟩)
  obtain ⟨x1, x2, x3, x4, x5, x6, x7, x8, x9⟩ := tpL_q 1 0 (by20 a b c e f) t h
  have xa := tpL_a 1 0 (by20 a b c e f) t h
  have xi := tpL_i 1 0 (by20 a b c e f) t h t2
  have s1 : Sk (tpL 1 0 (by20 a b c e f) t h) := by rw [tpL_s]; exact s
  generalize tpL 1 0 (by20 a b c e f) t h = h1 at x1 x2 x3 x4 x5 x6 x7 x8 x9 xa xi s1 ⊢
  have t3' : hI h1 59 1 = nI t := (x8 59 1 (by decide)).trans t3
  refine sp_feedM s1 t3' t1 (by rw [x5]; exact t6) (fun c => absurd c (by omega)) (fun _ => ⟨rfl, ?_⟩)
  obtain ⟨y1, y2, y3, y4, y5, y6, y7, y8, y9⟩ := tpL_q 60 59 (by20 a b c e f) t h1
  have ya := tpL_a 60 59 (by20 a b c e f) t h1
  have yi := tpL_i 60 59 (by20 a b c e f) t h1 t3'
  have s2 : Sk (tpL 60 59 (by20 a b c e f) t h1) := by rw [tpL_s]; exact s1
  generalize tpL 60 59 (by20 a b c e f) t h1 = h2 at y1 y2 y3 y4 y5 y6 y7 y8 y9 ya yi s2 ⊢
  have len : (by20 a b c e f).length = 20 := rfl
  rw [len] at xi yi
  have E : ∀ a b, ¬ (b = 1 ∧ (a = 0 ∨ a = 59)) → hI h2 a b = hI h a b := fun a b q => (y8 a b (by omega)).trans (x8 a b (by omega))
  have A : ∀ a, a ≠ 1 → a ≠ 60 → hA h2 a = hA h a := fun a q1 q2 => (y9 a q2).trans (x9 a q1)
  have N : hN h2 = hN h := y5.trans x5
  refine ⟨s2, ⟨t + 20, q, (y8 0 1 (by decide)).trans xi, yi, fun j hj => ?_, by rw [N]; exact t5, by rw [N]; exact t6⟩, ?_, ?_, ?_, ?_, hC k h h2 ?_ i7⟩
  · rw [ya j, y9 1 (by decide), xa j, x9 60 (by decide), len]
    by_cases c1 : t ≤ j ∧ j < t + 20
    · rw [if_pos c1, if_pos c1]
      exact ⟨rfl, by20_b _⟩
    · rw [if_neg c1, if_neg c1]; exact t4 j (by omega)
  · exact ⟨by rw [E 2 0 (by decide), E 59 2 (by decide)]; exact i3.1, by rw [E 2 1 (by decide), E 59 3 (by decide)]; exact i3.2⟩
  · unfold PoI
    rw [N, E 50 1 (by decide), E 50 2 (by decide), E 59 55 (by decide), A 51 (by decide) (by decide), A 127 (by decide) (by decide)]
    exact i4
  · unfold PoO
    rw [N, E 50 4 (by decide), E 59 57 (by decide), A 52 (by decide) (by decide), A 128 (by decide) (by decide)]
    exact i5
  · rw [E 0 8 (by decide), E 59 19 (by decide)]; exact i6
  · exact ⟨y1.trans x1, y2.trans x2, y3.trans x3, y4.trans x4, N, y6.trans x6, y7.trans x7, fun a b q _ _ => E a b (by omega), fun a q1 q2 _ _ _ _ => A a q1 q2⟩
/-- the ring's place -/
theorem fm_200 : ∀ n, n < 400 → nI n - nI n / 200 * 200 = nI (n % 200) ∧ 0 ≤ nI n ^^^ 200 := by decide +kernel
theorem sp_take {d : Nat} (hd : 0 < d) {h : Hp} (s : Sk h) {f c : Nat} (hf : f < 200) (hc : c ≤ 200) (n1 : hN h 51 = 200) (e1 : hI h 50 1 = nI f) (e2 : hI h 50 2 = nI c) {v : Int32} {Q : Option Value → Hp → Prop} (q1 : c = 200 → Q (some (.int (-1))) h) (q2 : c < 200 → Q (some (.int (nI (c + 1)))) (pI (pA h 51 (upd (hA h 51) ((f + c) % 200) v)) 50 2 (nI (c + 1)))) : aEv d 93 [.ref 50, .int v] h Q := by
  rw [e93_50 _ _ s, e1, e2, n1, nI_add]
  rw [show (nI c < (200 : Int32)) = (nI c < nI 200) from rfl, nI_ltI (by omega) (by omega)]
  refine ⟨fun q => ⟨hd, fun _ => ?_, fun c => absurd (fm_200 _ (by omega)).2 c⟩, fun q => q1 (by omega)⟩
  rw [(fm_200 _ (show f + c < 400 by omega)).1]
  have hs := nI_small (n := (f + c) % 200) (by omega)
  rw [hs.1, hs.2, nI_1]
  exact ⟨⟨by omega, by omega⟩, q2 q⟩
theorem sp_inputX {h : Hp} (s : Sk h) {f c : Nat} (hf : f < 200) (hc : c ≤ 200) (n1 : hN h 51 = 200) (e1 : hI h 50 1 = nI f) (e2 : hI h 50 2 = nI c) {v : Int32} {Q : Option Value → Hp → Prop} (q0 : hI h 0 8 = 0 → Q (some (.int (-1))) h) (q1 : ¬ hI h 0 8 = 0 → c = 200 → Q (some (.int (-1))) h) (q2 : ¬ hI h 0 8 = 0 → c < 200 → Q (some (.int (nI (c + 1)))) (pI (pA h 51 (upd (hA h 51) ((f + c) % 200) v)) 50 2 (nI (c + 1)))) : aEv 1399 169 [.ref 0, .int v] h Q := by
  unfold aEv
  simp only [lv_args, z_v, z_lg, z_h, z_u, z_u1, z_c, z_ct, z_sk, sbne, lst1_d, ldel, lst2_d, ldel2, z_sw, z_rok, zi, eq_self, List.map_cons, List.map_nil, List.append_nil, List.nil_append, List.cons_append, Int32.reduceLT, Int32.reduceLE, Int32.reduceAdd, Int32.reduceSub, Int32.reduceMul, Int32.reduceToInt, Int32.reduceToNatClampNeg, Int.reduceLT, Int.reduceLE, Int.reduceNeg, true_and, and_true, or_self, or_false, false_or, false_and, and_false, true_or, or_true, if_true, if_false, ne_eq, Classical.not_not, not_true_eq_false, not_false_eq_true, true_implies, false_implies, implies_true, Nat.reduceEqDiff, Nat.reduceAdd, Nat.reduceLeDiff, Nat.reduceSub, reduceCtorEq, reduceIte, b169_0, b169_21, b169_22, skX s, srX s]
  refine ⟨q0, fun q => ?_⟩
  simp only [lv_args, z_v, z_lg, z_h, z_u, z_u1, z_c, z_ct, z_sk, sbne, lst1_d, ldel, lst2_d, ldel2, z_sw, z_rok, zi, eq_self, List.map_cons, List.map_nil, List.append_nil, List.nil_append, List.cons_append, Int32.reduceLT, Int32.reduceLE, Int32.reduceAdd, Int32.reduceSub, Int32.reduceMul, Int32.reduceToInt, Int32.reduceToNatClampNeg, Int.reduceLT, Int.reduceLE, Int.reduceNeg, true_and, and_true, or_self, or_false, false_or, false_and, and_false, true_or, or_true, if_true, if_false, ne_eq, Classical.not_not, not_true_eq_false, not_false_eq_true, true_implies, false_implies, implies_true, Nat.reduceEqDiff, Nat.reduceAdd, Nat.reduceLeDiff, Nat.reduceSub, reduceCtorEq, reduceIte, Nat.reduceLT, b169_7, b169_22, skX s, srX s]
  refine sp_take (by decide) s hf hc n1 e1 e2 (fun c1 => ?_) (fun c1 => ?_)
  · simp only [lv_args, z_v, z_lg, z_h, z_u, z_u1, z_c, z_ct, z_sk, sbne, lst1_d, ldel, lst2_d, ldel2, z_sw, z_rok, zi, eq_self, List.map_cons, List.map_nil, List.append_nil, List.nil_append, List.cons_append, Int32.reduceLT, Int32.reduceLE, Int32.reduceAdd, Int32.reduceSub, Int32.reduceMul, Int32.reduceToInt, Int32.reduceToNatClampNeg, Int.reduceLT, Int.reduceLE, Int.reduceNeg, true_and, and_true, or_self, or_false, false_or, false_and, and_false, true_or, or_true, if_true, if_false, ne_eq, Classical.not_not, not_true_eq_false, not_false_eq_true, true_implies, false_implies, implies_true, Nat.reduceEqDiff, Nat.reduceAdd, Nat.reduceLeDiff, Nat.reduceSub, reduceCtorEq, reduceIte, Nat.reduceLT, b169_7, b169_22, skX s, srX s]
    exact q1 q c1
  · simp only [lv_args, z_v, z_lg, z_h, z_u, z_u1, z_c, z_ct, z_sk, sbne, lst1_d, ldel, lst2_d, ldel2, z_sw, z_rok, zi, eq_self, List.map_cons, List.map_nil, List.append_nil, List.nil_append, List.cons_append, Int32.reduceLT, Int32.reduceLE, Int32.reduceAdd, Int32.reduceSub, Int32.reduceMul, Int32.reduceToInt, Int32.reduceToNatClampNeg, Int.reduceLT, Int.reduceLE, Int.reduceNeg, true_and, and_true, or_self, or_false, false_or, false_and, and_false, true_or, or_true, if_true, if_false, ne_eq, Classical.not_not, not_true_eq_false, not_false_eq_true, true_implies, false_implies, implies_true, Nat.reduceEqDiff, Nat.reduceAdd, Nat.reduceLeDiff, Nat.reduceSub, reduceCtorEq, reduceIte, Nat.reduceLT, b169_7, b169_22, skX s, srX s]
    exact q2 q c1
theorem op_input (hC : CoC Core) : OpS (InvC Core) 169 218 1 := by
  intro k h As hk hi hl hv
  obtain ⟨z, rfl⟩ := as_1 hl hv
  have up := inv_up hC hi
  obtain ⟨s, i2, i3, ⟨n1, n2, f, c, c1, c2, c3, c4, c5, c6⟩, i5, i6, i7⟩ := hi
  have hc := nI_small (n := c) (by omega)
  refine sp_inputX s c1 c2 n1 c3 c4 (fun q => ⟨_, rfl, ?_⟩) (fun q q1 => ⟨_, rfl, ?_⟩) (fun q q1 => ⟨_, rfl, ?_⟩)
  · rw [e218_59 _ _ s]
    exact ⟨fun _ => ⟨rfl, up⟩, fun c => absurd (i6 ▸ q) c⟩
  · rw [e218_59 _ _ s]
    refine ⟨fun c => absurd (i6 ▸ c) q, fun _ => ⟨fun c => absurd (by rw [c5, q1]; rfl) c, fun _ => ⟨rfl, up⟩⟩⟩
  · have s1 : Sk (pI (pA h 51 (upd (hA h 51) ((f + c) % 200) z)) 50 2 (nI (c + 1))) := (sk_same rfl rfl rfl : Sk _ = Sk h) ▸ s
    rw [e218_59 _ _ s1]
    have e19 : hI (pI (pA h 51 (upd (hA h 51) ((f + c) % 200) z)) 50 2 (nI (c + 1))) 59 19 = hI h 59 19 := rfl
    have e55 : hI (pI (pA h 51 (upd (hA h 51) ((f + c) % 200) z)) 50 2 (nI (c + 1))) 59 55 = nI c := c5
    have eN : hN (pI (pA h 51 (upd (hA h 51) ((f + c) % 200) z)) 50 2 (nI (c + 1))) 127 = 200 := n2
    rw [e19, e55, eN, hc.1, hc.2, nI_1]
    refine ⟨fun c => absurd (i6 ▸ c) q, fun _ => ⟨fun _ => ⟨⟨by omega, by omega⟩, rfl, ?_⟩, fun c => ?_⟩⟩
    · refine ⟨(sk_same rfl rfl rfl : Sk _ = Sk h) ▸ s, i2, i3, ⟨n1, n2, f, c + 1, c1, by omega, c3, rfl, rfl, fun j hj => ?_⟩, i5, i6, hC k h _ ?_ i7⟩
      · show (if (f + j) % 200 = (f + c) % 200 then z else hA h 51 ((f + j) % 200)) = (if j = c then z else hA h 127 j)
        by_cases g : j = c
        · rw [g, if_pos rfl, if_pos rfl]
        · rw [if_neg g, if_neg (by omega), c6 j (by omega)]
      · refine ⟨rfl, rfl, rfl, rfl, rfl, rfl, rfl, fun a b c1 c2 c3 => ?_, fun a g1 g2 g3 g4 g5 g6 => ?_⟩
        · show (if a = 59 ∧ b = 55 then nI (c + 1) else if a = 50 ∧ b = 2 then nI (c + 1) else hI h a b) = hI h a b
          rw [if_neg (by omega), if_neg (by omega)]
        · show va_up (va_up (hA h) 51 _) 127 _ a = hA h a
          unfold va_up
          rw [if_neg g4, if_neg g3]
    · exfalso
      have := congrArg Int32.toInt c
      rw [hc.1] at this
      have e : (200 : Int32).toInt = 200 := rfl
      omega
end OPF
