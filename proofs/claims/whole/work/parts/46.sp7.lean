/-! SPECS: small constructors -/
theorem i64_k : (64 : Int32).toInt = 64 ∧ (64 : Int32).toNatClampNeg = 64 ∧ (16 : Int32).toInt = 16 ∧ (16 : Int32).toNatClampNeg = 16 ∧ (200 : Int32).toInt = 200 ∧ (200 : Int32).toNatClampNeg = 200 := by decide
theorem sp_Fault_init {d : Nat} (hd : 1 ≤ d) {h : Hp} {k : Nat} {Q : Option Value → Hp → Prop} (hk : hK h k = 2) (hq : Q none (pI h k 1 (-1))) : aEv d 31 [.ref k] h Q := by
  have h0 : 0 < d := hd
  unfold aEv
  simp only [lv_args, z_v, Nat.reduceEqDiff, if_false, Nat.reduceAdd]
  simp only [b31_0, z_v, z_lg, z_h, z_c, hk, h0, true_and, and_true, Nat.reduceEqDiff, Nat.reduceLeDiff]
  exact hq
theorem sp_Heap_init {d : Nat} (hd : 1 ≤ d) {h : Hp} {k : Nat} {Q : Option Value → Hp → Prop} (hk : hK h k = 3) (hkn : k < hn h) (hr : hR h k 0 = none) (hsb : hn h < SB) (hq : Q none (pR (nA h 15 64) k 0 (some (hn h)))) : aEv d 36 [.ref k] h Q := by
  have h0 : 0 < d := hd
  have kne : (k = hn h) = False := eq_false (Nat.ne_of_lt hkn)
  unfold aEv
  simp only [lv_args, z_v, Nat.reduceEqDiff, if_false, Nat.reduceAdd]
  simp only [b36_0, z_v, z_lg, z_h, z_u1, z_c, hk, hr, kne, hsb, h0, i64_k, if_false, true_and, and_true, Nat.reduceEqDiff, Nat.reduceLeDiff, Int.reduceLE]
  exact hq
theorem sp_Ports_init {d : Nat} (hd : 1 ≤ d) {h : Hp} {k : Nat} {Q : Option Value → Hp → Prop} (hk : hK h k = 6) (hkn : k < hn h) (hr : hR h k 0 = none) (hr3 : hR h k 3 = none) (hsb : hn h + 1 < SB) (hq : Q none (pR (nA (pR (nA h 14 200) k 0 (some (hn h))) 14 16) k 3 (some (hn h + 1)))) : aEv d 90 [.ref k] h Q := by
  have h0 : 0 < d := hd
  have kne : (k = hn h) = False := eq_false (Nat.ne_of_lt hkn)
  have kne1 : (k = hn h + 1) = False := eq_false (by omega)
  have hsb0 : hn h < SB := by omega
  unfold aEv
  simp only [lv_args, z_v, Nat.reduceEqDiff, if_false, Nat.reduceAdd]
  simp only [b90_0, z_v, z_lg, z_h, z_u1, z_u, z_c, hk, hr, hr3, kne, kne1, hsb, hsb0, h0, i64_k, if_false, true_and, and_true, and_false, Nat.reduceEqDiff, Nat.reduceLeDiff, Int.reduceLE]
  exact hq
