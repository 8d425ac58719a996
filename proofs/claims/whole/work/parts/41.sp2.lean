/-! SPECS: Arrays.copyOf, Rows.withRoom -/
theorem nI_small {n : Nat} (h : n ≤ 60000000) : (nI n).toInt = (n : Int) ∧ (nI n).toNatClampNeg = n := ⟨nI_toInt (by omega), nI_clamp (by omega)⟩
/-- the new row behind Arrays.copyOf to a length that is another one -/
def cpI (h : Hp) (k n : Nat) : Hp := pA (nA h 14 n) (hn h) (va_cpy (hA h k) (fun _ => 0) 0 0 (min (hN h k) n))
theorem sp_copyI {d : Nat} (hd : 1 ≤ d) {h : Hp} {k n : Nat} {Q : Option Value → Hp → Prop} (hk : hK h k = 14) (hkn : k < hn h) (hsb : hn h < SB) (hn0 : n ≤ 60000000) (hl : hN h k ≤ 60000000) (hne : ¬ n = hN h k) (hq : Q (some (.ref (hn h))) (cpI h k n)) : aEv d 279 [.ref k, .int (nI n)] h Q := by
  have h0 : 0 < d := hd
  obtain ⟨n1, n2⟩ := nI_small hn0
  obtain ⟨l1, l2⟩ := nI_small hl
  have hnn : ¬ nI n = nI (hN h k) := fun e => hne ((nI_eq (by omega) (by omega)).mp e)
  have kne : (k = hn h) = False := eq_false (Nat.ne_of_lt hkn)
  unfold aEv
  simp only [lv_args, z_v, Nat.reduceEqDiff, if_false, Nat.reduceAdd]
  simp only [b279_0, z_v, z_lg, z_h, hk, true_and, and_true, Nat.reduceEqDiff, Nat.reduceLeDiff, ne_eq, hnn, not_false_eq_true, true_implies, not_true_eq_false, false_implies]
  simp only [b279_14, z_v, z_lg, lst1_d, ldel, z_h, z_u1, hk, kne, if_false, n1, n2, hsb, h0, z_c, true_and, and_true, Nat.reduceEqDiff, Nat.reduceLeDiff, Nat.reduceAdd, or_self, false_and, or_false]
  trace_state
  sorry
