/-! the free boxes -/
section REO
variable {h h' : Hp} {Q : Option Value → Hp → Prop} {d : Nat} {G : PG} {q : Nat} {qv : Nat → Int64}
theorem pA_id (h : Hp) (k : Nat) : pA h k (hA h k) = h := by
  show (h.1, h.2.1, h.2.2.1, h.2.2.2.1, va_up (hA h) k (hA h k), h.2.2.2.2.2) = h
  have e2 : va_up (hA h) k (hA h k) = hA h := by
    funext a
    unfold va_up
    split
    · rename_i e; rw [e]
    · rfl
  rw [e2]; rfl
theorem pI_pI (h : Hp) (k i : Nat) (x y : Int32) : pI (pI h k i x) k i y = pI h k i y := by
  show (h.1, up2 (up2 h.2.1 k i x) k i y, h.2.2) = (h.1, up2 h.2.1 k i y, h.2.2)
  have : up2 (up2 h.2.1 k i x) k i y = up2 h.2.1 k i y := by
    funext a b
    unfold up2
    split
    · rfl
    · rfl
  rw [this]
theorem fch_cg {f g : Nat → Int32} : ∀ {l : List Nat} {c : Int32}, (∀ x, x ∈ l → g x = f x) → Fch f c l → Fch g c l
  | [], _, _, h => h
  | b :: l, c, e, h => by
    obtain ⟨h1, h2, h3⟩ := h
    refine ⟨h1, h2, ?_⟩
    rw [e b (by simp)]
    exact fch_cg (fun x hx => e x (by simp [hx])) h3
theorem fch_add {f : Nat → Int32} {c : Int32} {l : List Nat} {b : Nat} (hb : b ∉ l) (h3 : b < 300000) (H : Fch f c l) : Fch (upd f b c) (nI b) (b :: l) := by
  refine ⟨rfl, h3, ?_⟩
  have : upd f b c b = c := if_pos rfl
  rw [this]
  exact fch_up hb H
theorem pige : ∀ (n : Nat) (l : List Nat), (∀ x, x < n → x ∈ l) → n ≤ l.length
  | 0, _, _ => Nat.zero_le _
  | n + 1, l, h => by
    have h1 := h n (by omega)
    have h2 := pige n (l.erase n) (fun x hx => (List.mem_erase_of_ne (by omega)).mpr (h x (by omega)))
    have h3 := List.length_erase_of_mem h1
    have h4 : 0 < l.length := List.length_pos_of_mem h1
    omega
theorem dn_1 (m : Nat) : nI m + (-1) = nI m - 1 := (Int32.sub_eq_add_neg ..).symm
theorem dn_0 : nI 0 - 1 < 0 := by decide
theorem c4_loop {len : Nat} {f0 : Nat → Int32} (s : Sk h) (hl2 : hN h 120 = len) (hn : len ≤ 300000) (hq : ∀ f c fl, Fch f c fl → fl.Nodup → (∀ x, x ∈ fl ↔ x < len ∧ f0 x ≠ -2) → aWP d 196 149 [(2, .int (nI 0 - 1)), (1, .int (nI fl.length)), (0, .ref 59)] [] (pI (pA h 120 f) 59 42 c) Q) : ∀ (m : Nat) (f : Nat → Int32) (c : Int32) (fl : List Nat), m ≤ len → (∀ x, x < m → f x = f0 x) → Fch f c fl → fl.Nodup → (∀ x, x ∈ fl ↔ m ≤ x ∧ x < len ∧ f0 x ≠ -2) → aWP d 196 107 [(2, .int (nI m - 1)), (1, .int (nI fl.length)), (0, .ref 59)] [] (pI (pA h 120 f) 59 42 c) Q := by
  intro m
  induction m with
  | zero =>
    intro f c fl _ _ h1 h2 h3
    have next := hq f c fl h1 h2 (fun x => (h3 x).trans ⟨fun e => e.2, fun e => ⟨Nat.zero_le _, e⟩⟩)
    simp only [lv_args, z_v, z_lg, z_h, z_u, z_u1, z_c, z_ct, z_sk, sbne, lst1_d, ldel, lst2_d, ldel2, z_sw, z_rok, zi, eq_self, List.map_cons, List.map_nil, List.append_nil, List.nil_append, List.cons_append, Int32.reduceLT, Int32.reduceLE, Int32.reduceAdd, Int32.reduceSub, Int32.reduceMul, Int32.reduceToInt, Int32.reduceToNatClampNeg, Int.reduceLT, Int.reduceLE, Int.reduceNeg, true_and, and_true, or_self, or_false, false_or, false_and, and_false, true_or, or_true, if_true, if_false, ne_eq, Classical.not_not, not_true_eq_false, not_false_eq_true, true_implies, false_implies, implies_true, Nat.reduceEqDiff, Nat.reduceAdd, Nat.reduceLeDiff, Nat.reduceSub, reduceCtorEq, reduceIte, b196_107, dn_0]
    exact next
  | succ m ih =>
    intro f c fl hm hf h1 h2 h3
    have hnm : m ∉ fl := fun e => by
      have := ((h3 m).mp e).1
      omega
    simp only [lv_args, z_v, z_lg, z_h, z_u, z_u1, z_c, z_ct, z_sk, sbne, lst1_d, ldel, lst2_d, ldel2, z_sw, z_rok, zi, eq_self, List.map_cons, List.map_nil, List.append_nil, List.nil_append, List.cons_append, Int32.reduceLT, Int32.reduceLE, Int32.reduceAdd, Int32.reduceSub, Int32.reduceMul, Int32.reduceToInt, Int32.reduceToNatClampNeg, Int.reduceLT, Int.reduceLE, Int.reduceNeg, true_and, and_true, or_self, or_false, false_or, false_and, and_false, true_or, or_true, if_true, if_false, ne_eq, Classical.not_not, not_true_eq_false, not_false_eq_true, true_implies, false_implies, implies_true, Nat.reduceEqDiff, Nat.reduceAdd, Nat.reduceLeDiff, Nat.reduceSub, reduceCtorEq, reduceIte, b196_107, nI_m1]
    simp (disch := omega) only [nI_lt0, not_false_eq_true, false_imp_iff, true_imp_iff, true_and]
    simp only [lv_args, z_v, z_lg, z_h, z_u, z_u1, z_c, z_ct, z_sk, sbne, lst1_d, ldel, lst2_d, ldel2, z_sw, z_rok, zi, eq_self, List.map_cons, List.map_nil, List.append_nil, List.nil_append, List.cons_append, Int32.reduceLT, Int32.reduceLE, Int32.reduceAdd, Int32.reduceSub, Int32.reduceMul, Int32.reduceToInt, Int32.reduceToNatClampNeg, Int.reduceLT, Int.reduceLE, Int.reduceNeg, true_and, and_true, or_self, or_false, false_or, false_and, and_false, true_or, or_true, if_true, if_false, ne_eq, Classical.not_not, not_true_eq_false, not_false_eq_true, true_implies, false_implies, implies_true, Nat.reduceEqDiff, Nat.reduceAdd, Nat.reduceLeDiff, Nat.reduceSub, reduceCtorEq, reduceIte, b196_111, skM s, srM s, hl2]
    simp (disch := omega) only [nI_ti, nI_cl, le0N, ltNN, true_and]
    refine ⟨by omega, ?_⟩
    try simp only [lv_args, z_v, z_lg, z_h, z_u, z_u1, z_c, z_ct, z_sk, sbne, lst1_d, ldel, lst2_d, ldel2, z_sw, z_rok, zi, eq_self, List.map_cons, List.map_nil, List.append_nil, List.nil_append, List.cons_append, Int32.reduceLT, Int32.reduceLE, Int32.reduceAdd, Int32.reduceSub, Int32.reduceMul, Int32.reduceToInt, Int32.reduceToNatClampNeg, Int.reduceLT, Int.reduceLE, Int.reduceNeg, true_and, and_true, or_self, or_false, false_or, false_and, and_false, true_or, or_true, if_true, if_false, ne_eq, Classical.not_not, not_true_eq_false, not_false_eq_true, true_implies, false_implies, implies_true, Nat.reduceEqDiff, Nat.reduceAdd, Nat.reduceLeDiff, Nat.reduceSub, reduceCtorEq, reduceIte, b196_111]
    rw [hf m (by omega)]
    refine ⟨fun c2 => ?_, fun c2 => ?_⟩
    · have next := ih (upd f m c) (nI m) (m :: fl) (by omega) (fun x hx => by
        have : upd f m c x = f x := if_neg (by omega)
        rw [this]; exact hf x (by omega)) (fch_add hnm (by omega) h1) (List.nodup_cons.mpr ⟨hnm, h2⟩) (fun x => by
          rw [List.mem_cons, h3 x]
          constructor
          · rintro (rfl | ⟨e1, e2, e3⟩)
            · exact ⟨Nat.le_refl _, by omega, c2⟩
            · exact ⟨by omega, e2, e3⟩
          · rintro ⟨e1, e2, e3⟩
            rcases Nat.lt_or_ge m x with e | e
            · exact Or.inr ⟨e, e2, e3⟩
            · exact Or.inl (by omega))
      have hcl : pI (pA (pI (pA h 120 f) 59 42 c) 120 (upd f m c)) 59 42 (nI m) = pI (pA h 120 (upd f m c)) 59 42 (nI m) := by
        show pI (pI (pA (pA h 120 f) 120 (upd f m c)) 59 42 c) 59 42 (nI m) = _
        rw [pA_pA, pI_pI]
      rw [← hcl] at next
      simp only [lv_args, z_v, z_lg, z_h, z_u, z_u1, z_c, z_ct, z_sk, sbne, lst1_d, ldel, lst2_d, ldel2, z_sw, z_rok, zi, eq_self, List.map_cons, List.map_nil, List.append_nil, List.nil_append, List.cons_append, Int32.reduceLT, Int32.reduceLE, Int32.reduceAdd, Int32.reduceSub, Int32.reduceMul, Int32.reduceToInt, Int32.reduceToNatClampNeg, Int.reduceLT, Int.reduceLE, Int.reduceNeg, true_and, and_true, or_self, or_false, false_or, false_and, and_false, true_or, or_true, if_true, if_false, ne_eq, Classical.not_not, not_true_eq_false, not_false_eq_true, true_implies, false_implies, implies_true, Nat.reduceEqDiff, Nat.reduceAdd, Nat.reduceLeDiff, Nat.reduceSub, reduceCtorEq, reduceIte, b196_125, skM s, srM s, hl2]
      simp (disch := omega) only [nI_ti, nI_cl, le0N, ltNN, true_and]
      refine ⟨by omega, ?_⟩
      try simp only [lv_args, z_v, z_lg, z_h, z_u, z_u1, z_c, z_ct, z_sk, sbne, lst1_d, ldel, lst2_d, ldel2, z_sw, z_rok, zi, eq_self, List.map_cons, List.map_nil, List.append_nil, List.nil_append, List.cons_append, Int32.reduceLT, Int32.reduceLE, Int32.reduceAdd, Int32.reduceSub, Int32.reduceMul, Int32.reduceToInt, Int32.reduceToNatClampNeg, Int.reduceLT, Int.reduceLE, Int.reduceNeg, true_and, and_true, or_self, or_false, false_or, false_and, and_false, true_or, or_true, if_true, if_false, ne_eq, Classical.not_not, not_true_eq_false, not_false_eq_true, true_implies, false_implies, implies_true, Nat.reduceEqDiff, Nat.reduceAdd, Nat.reduceLeDiff, Nat.reduceSub, reduceCtorEq, reduceIte, b196_125, b196_143, dn_1, nI_1]
      exact next
    · have next := ih f c fl (by omega) (fun x hx => hf x (by omega)) h1 h2 (fun x => (h3 x).trans ⟨fun ⟨e1, e2⟩ => ⟨by omega, e2⟩, fun ⟨e1, e2, e3⟩ => ⟨by
          rcases Nat.lt_or_ge m x with e | e
          · exact e
          · have : x = m := by omega
            subst this
            exact absurd c2 e3, e2, e3⟩⟩)
      simp only [lv_args, z_v, z_lg, z_h, z_u, z_u1, z_c, z_ct, z_sk, sbne, lst1_d, ldel, lst2_d, ldel2, z_sw, z_rok, zi, eq_self, List.map_cons, List.map_nil, List.append_nil, List.nil_append, List.cons_append, Int32.reduceLT, Int32.reduceLE, Int32.reduceAdd, Int32.reduceSub, Int32.reduceMul, Int32.reduceToInt, Int32.reduceToNatClampNeg, Int.reduceLT, Int.reduceLE, Int.reduceNeg, true_and, and_true, or_self, or_false, false_or, false_and, and_false, true_or, or_true, if_true, if_false, ne_eq, Classical.not_not, not_true_eq_false, not_false_eq_true, true_implies, false_implies, implies_true, Nat.reduceEqDiff, Nat.reduceAdd, Nat.reduceLeDiff, Nat.reduceSub, reduceCtorEq, reduceIte, b196_122, b196_143, dn_1]
      exact next
end REO
