/-! Arrays.fill of longs -/
def filL (f : Nat → Int64) (n : Nat) (v : Int64) : Nat → Int64 := fun i => if i < n then v else f i
theorem filL_s (f : Nat → Int64) (n : Nat) (v : Int64) : vp_updL (filL f n v) n v = filL f (n + 1) v := by
  funext i
  unfold vp_updL filL
  by_cases c : i = n
  · rw [if_pos c, if_pos (by omega)]
  · rw [if_neg c]
    by_cases c2 : i < n
    · rw [if_pos c2, if_pos (by omega)]
    · rw [if_neg c2, if_neg (by omega)]
theorem pB_pB (h : Hp) (k : Nat) (f g : Nat → Int64) : pB (pB h k f) k g = pB h k g := by
  show (h.1, h.2.1, h.2.2.1, h.2.2.2.1, h.2.2.2.2.1, va_up (va_up (hB h) k f) k g, h.2.2.2.2.2.2) = (h.1, h.2.1, h.2.2.1, h.2.2.2.1, h.2.2.2.2.1, va_up (hB h) k g, h.2.2.2.2.2.2)
  have : va_up (va_up (hB h) k f) k g = va_up (hB h) k g := by
    funext a
    unfold va_up
    split
    · rfl
    · rfl
  rw [this]
theorem fill_loopL {d : Nat} {h : Hp} {k n : Nat} {v : Int64} {Q : Option Value → Hp → Prop} (hk : hK h k = 15) (hn0 : hN h k = n) (hn1 : n < 2 ^ 31) (hq : Q none (pB h k (filL (hB h k) n v))) : ∀ (m j : Nat) (L : ALS), j + m = n → lgv L 0 = .ref k → lgv L 1 = .long v → lgv L 3 = .int (nI j) → lgv L 4 = .int (nI n) → aWP d 282 6 L [] (pB h k (filL (hB h k) j v)) Q := by
  intro m
  induction m with
  | zero =>
    intro j L hj l0 l1 l2 l3
    simp only [b282_6, b282_22, z_v, l0, l1, l2, l3, true_and]
    have : j = n := by omega
    subst this
    exact ⟨fun _ => hq, fun e => absurd (show nI j ≤ nI j from (nI_leI (by omega) (by omega)).mpr (Nat.le_refl j)) e⟩
  | succ m ih =>
    intro j L hj l0 l1 l2 l3
    have hlt : j < n := by omega
    simp only [b282_6, z_v, l2, l3, true_and]
    refine ⟨fun e => absurd ((nI_leI (by omega) (by omega)).mp e) (by omega), fun _ => ?_⟩
    simp only [b282_12, z_v, l0, l1, l2, l3, z_h, hk, hn0, true_and, nI_1]
    refine ⟨⟨by rw [nI_toInt (by omega)]; omega, by rw [nI_toInt (by omega)]; omega⟩, ?_⟩
    rw [nI_clamp (by omega)]
    have e1 : va_up (hB h) k (filL (hB h k) j v) k = filL (hB h k) j v := up1_eq
    rw [e1, filL_s, pB_pB]
    exact ih (j + 1) _ (by omega) (by rw [lgv_ot (by decide) (by decide)]; exact l0) (by rw [lgv_ot (by decide) (by decide)]; exact l1) lgv_st (by rw [lgv_ot (by decide) (by decide)]; exact l3)
theorem sp_fillL {d : Nat} {h : Hp} {k n : Nat} {v : Int64} {Q : Option Value → Hp → Prop} (hk : hK h k = 15) (hn0 : hN h k = n) (hn1 : n < 2 ^ 31) (hq : Q none (pB h k (filL (hB h k) n v))) : aEv d 282 [.ref k, .long v] h Q := by
  unfold aEv
  simp only [lv_args, z_v, z_lg, z_h, z_u, z_u1, z_c, z_ct, z_sk, sbne, lst1_d, ldel, lst2_d, ldel2, z_sw, z_rok, zi, eq_self, List.map_cons, List.map_nil, List.append_nil, List.nil_append, List.cons_append, Int32.reduceLT, Int32.reduceLE, Int32.reduceAdd, Int32.reduceSub, Int32.reduceMul, Int32.reduceToInt, Int32.reduceToNatClampNeg, Int.reduceLT, Int.reduceLE, Int.reduceNeg, true_and, and_true, or_self, or_false, false_or, false_and, and_false, true_or, or_true, if_true, if_false, ne_eq, Classical.not_not, not_true_eq_false, not_false_eq_true, true_implies, false_implies, implies_true, Nat.reduceEqDiff, Nat.reduceAdd, Nat.reduceLeDiff, Nat.reduceSub, reduceCtorEq, reduceIte, b282_0, hk, hn0]
  have h0 : pB h k (filL (hB h k) 0 v) = h := by
    have : filL (hB h k) 0 v = hB h k := by funext i; exact if_neg (Nat.not_lt_zero i)
    rw [this]
    show (h.1, h.2.1, h.2.2.1, h.2.2.2.1, h.2.2.2.2.1, va_up (hB h) k (hB h k), h.2.2.2.2.2.2) = h
    have e2 : va_up (hB h) k (hB h k) = hB h := by
      funext a
      unfold va_up
      split
      · rename_i e; rw [e]
      · rfl
    rw [e2]; rfl
  have := fun L => fill_loopL (d := d) hk hn0 hn1 hq n 0 L (by omega)
  rw [h0] at this
  exact this _ rfl rfl (by rw [nI_0]; rfl) rfl
