/-! SPECS: Ports, Heap.hasRoom, Math.floorMod -/
theorem sp_forgetAll {d : Nat} {h : Hp} {k : Nat} {Q : Option Value → Hp → Prop} (hk : hK h k = 6) (hq : Q none (pI (pI (pI h k 1 0) k 2 0) k 4 0)) : aEv d 88 [.ref k] h Q := by
  unfold aEv
  simp only [lv_args, z_v, Nat.reduceEqDiff, if_false, Nat.reduceAdd]
  simp only [b88_0, z_v, z_lg, z_h, hk, true_and, Nat.reduceEqDiff]
  exact hq
theorem sp_dropOutputs {d : Nat} {h : Hp} {k : Nat} {Q : Option Value → Hp → Prop} (hk : hK h k = 6) (hq : Q (some (.int (hI h k 4))) (pI h k 4 0)) : aEv d 87 [.ref k] h Q := by
  unfold aEv
  simp only [lv_args, z_v, Nat.reduceEqDiff, if_false, Nat.reduceAdd]
  simp only [b87_0, z_v, z_lg, z_h, lst1_d, ldel, hk, true_and, and_true, Nat.reduceEqDiff, Nat.reduceAdd, or_self, or_false, false_or, false_and, if_false]
  exact hq
theorem sp_outputAt {d : Nat} {h : Hp} {k f : Nat} {i : Int32} {Q : Option Value → Hp → Prop} (hk : hK h k = 6) (hr : hR h k 3 = some f) (hf : hK h f = 14) (hb : ¬ i < 0 → ¬ hI h k 4 ≤ i → 0 ≤ i.toInt ∧ i.toInt < hN h f) (hq : Q (some (.int (if i < 0 ∨ hI h k 4 ≤ i then 0 else hA h f i.toNatClampNeg))) h) : aEv d 92 [.ref k, .int i] h Q := by
  unfold aEv
  simp only [lv_args, z_v, Nat.reduceEqDiff, if_false, Nat.reduceAdd]
  simp only [b92_0, b92_4, b92_12, b92_21, b92_22, z_v, z_lg, z_h, hk, hr, hf, true_and, Nat.reduceEqDiff]
  refine ⟨fun e => ?_, fun e => ⟨fun e2 => ?_, fun e2 => ⟨hb e e2, ?_⟩⟩⟩
  · rw [if_pos (Or.inl e)] at hq; exact hq
  · rw [if_pos (Or.inr e2)] at hq; exact hq
  · rw [if_neg (fun z => z.elim e e2)] at hq; exact hq
theorem sp_hasRoom {d : Nat} {h : Hp} {k : Nat} {n : Int32} {Q : Option Value → Hp → Prop} (hk : hK h k = 3) (hq : Q (some (.int (if hI h k 2 + n ≤ 40000 then 1 else 0))) h) : aEv d 35 [.ref k, .int n] h Q := by
  unfold aEv
  simp only [lv_args, z_v, Nat.reduceEqDiff, if_false, Nat.reduceAdd]
  simp only [b35_0, b35_11, b35_15, b35_16, z_v, z_lg, z_h, hk, true_and, true_or, or_true, Nat.reduceEqDiff]
  refine ⟨fun e => ?_, fun e => ?_⟩
  · rw [if_neg (by rw [Int32.not_le]; exact e)] at hq; exact hq
  · rw [if_pos (Int32.not_lt.mp e)] at hq; exact hq
