/-! SPECS: Ports, Heap.hasRoom, Math.floorMod -/
theorem sp_forgetAll {d : Nat} {h : Hp} {k : Nat} {Q : Option Value → Hp → Prop} (hk : hK h k = 6) (hq : Q none (pI (pI (pI h k 1 0) k 2 0) k 4 0)) : aEv d 88 [.ref k] h Q := by
  unfold aEv
  simp only [lv_args, z_v, Nat.reduceEqDiff, if_false, Nat.reduceAdd]
  simp only [b88_0, z_v, z_lg, z_h, hk, true_and, Nat.reduceEqDiff]
  exact hq
theorem sp_dropOutputs {d : Nat} {h : Hp} {k : Nat} {Q : Option Value → Hp → Prop} (hk : hK h k = 6) (hq : Q (some (.int (hI h k 4))) (pI h k 4 0)) : aEv d 87 [.ref k] h Q := by
  unfold aEv
  simp only [lv_args, z_v, Nat.reduceEqDiff, if_false, Nat.reduceAdd]
  simp only [b87_0, z_v, z_lg, z_h, lst1_d, ldel, hk, true_and, and_true, Nat.reduceEqDiff, Nat.reduceAdd, or_self, or_false, false_or, false_and, if_false]
  exact hq
theorem sp_outputAt {d : Nat} {h : Hp} {k f : Nat} {i : Int32} {Q : Option Value → Hp → Prop} (hk : hK h k = 6) (hr : hR h k 3 = some f) (hf : hK h f = 14) (hb : ¬ i < 0 → ¬ hI h k 4 ≤ i → 0 ≤ i.toInt ∧ i.toInt < hN h f) (hq : Q (some (.int (if i < 0 ∨ hI h k 4 ≤ i then 0 else hA h f i.toNatClampNeg))) h) : aEv d 92 [.ref k, .int i] h Q := by
  unfold aEv
  simp only [lv_args, z_v, Nat.reduceEqDiff, if_false, Nat.reduceAdd]
  simp only [b92_0, b92_4, b92_12, b92_21, b92_22, z_v, z_lg, z_h, hk, hr, hf, true_and, Nat.reduceEqDiff]
  refine ⟨fun e => ?_, fun e => ⟨fun e2 => ?_, fun e2 => ⟨hb e e2, ?_⟩⟩⟩
  · rw [if_pos (Or.inl e)] at hq; exact hq
  · rw [if_pos (Or.inr e2)] at hq; exact hq
  · rw [if_neg (fun z => z.elim e e2)] at hq; exact hq
theorem sp_hasRoom {d : Nat} {h : Hp} {k : Nat} {n : Int32} {Q : Option Value → Hp → Prop} (hk : hK h k = 3) (hq : Q (some (.int (if hI h k 2 + n ≤ 40000 then 1 else 0))) h) : aEv d 35 [.ref k, .int n] h Q := by
  unfold aEv
  simp only [lv_args, z_v, Nat.reduceEqDiff, if_false, Nat.reduceAdd]
  simp only [b35_0, b35_11, b35_15, b35_16, z_v, z_lg, z_h, hk, true_and, true_or, or_true, Nat.reduceEqDiff]
  refine ⟨fun e => ?_, fun e => ?_⟩
  · rw [if_neg (by rw [Int32.not_le]; exact e)] at hq; exact hq
  · rw [if_pos (Int32.not_lt.mp e)] at hq; exact hq
theorem sp_lambdaOf {d : Nat} (hd : 1 ≤ d) {h : Hp} {k f : Nat} {p : Int32} {Q : Option Value → Hp → Prop} (hk : hK h k = 3) (hr : hR h k 0 = some f) (hf : hK h f = 15) (hne : (f = SB + 100) = False) (hb : ¬ p < 0 → ¬ hI h k 1 ≤ p → 0 ≤ p.toInt ∧ p.toInt < hN h f) (hq : Q (some (.int (if p < 0 ∨ hI h k 1 ≤ p then (0 : Int64) else hB h f p.toNatClampNeg).toInt32)) h) : aEv d 38 [.ref k, .int p] h Q := by
  have h0 : 0 < d := hd
  unfold aEv
  simp only [lv_args, z_v, Nat.reduceEqDiff, if_false, Nat.reduceAdd]
  simp only [b38_0, z_v, z_lg, z_c, hk, h0, true_and, and_true, Nat.reduceEqDiff, Nat.reduceLeDiff, Nat.reduceAdd]
  refine sp_look hk hr hf hne hb ?_
  simp only [z_ct, true_or, true_and, b38_0]
  exact hq
theorem sp_keptOf {d : Nat} (hd : 1 ≤ d) {h : Hp} {k f : Nat} {p i : Int32} {Q : Option Value → Hp → Prop} (hk : hK h k = 3) (hr : hR h k 0 = some f) (hf : hK h f = 15) (hne : (f = SB + 100) = False) (hb : ¬ p + 1 + i < 0 → ¬ hI h k 1 ≤ p + 1 + i → 0 ≤ (p + 1 + i).toInt ∧ (p + 1 + i).toInt < hN h f) (hq : Q (some (.int (if p + 1 + i < 0 ∨ hI h k 1 ≤ p + 1 + i then (0 : Int64) else hB h f (p + 1 + i).toNatClampNeg).toInt32)) h) : aEv d 37 [.ref k, .int p, .int i] h Q := by
  have h0 : 0 < d := hd
  unfold aEv
  simp only [lv_args, z_v, Nat.reduceEqDiff, if_false, Nat.reduceAdd]
  simp only [b37_0, z_v, z_lg, z_c, hk, h0, true_and, and_true, Nat.reduceEqDiff, Nat.reduceLeDiff, Nat.reduceAdd]
  refine sp_look hk hr hf hne hb ?_
  simp only [z_ct, true_or, true_and, b37_0]
  exact hq
theorem sp_putKept {d : Nat} (hd : 1 ≤ d) {h : Hp} {k f : Nat} {p i b : Int32} {Q : Option Value → Hp → Prop} (hk : hK h k = 3) (hr : hR h k 0 = some f) (hf : hK h f = 15) (hb : ¬ p + 1 + i < 0 → ¬ hI h k 1 ≤ p + 1 + i → 0 ≤ (p + 1 + i).toInt ∧ (p + 1 + i).toInt < hN h f) (hq : Q none (if p + 1 + i < 0 ∨ hI h k 1 ≤ p + 1 + i then h else pB h f (vp_updL (hB h f) (p + 1 + i).toNatClampNeg b.toInt64))) : aEv d 44 [.ref k, .int p, .int i, .int b] h Q := by
  have h0 : 0 < d := hd
  unfold aEv
  simp only [lv_args, z_v, Nat.reduceEqDiff, if_false, Nat.reduceAdd]
  simp only [b44_0, z_v, z_lg, z_c, hk, h0, true_and, and_true, Nat.reduceEqDiff, Nat.reduceLeDiff, Nat.reduceAdd]
  refine sp_hput hk hr hf hb ?_
  have hv1 : hv (if p + 1 + i < 0 ∨ hI h k 1 ≤ p + 1 + i then h else pB h f (vp_updL (hB h f) (p + 1 + i).toNatClampNeg b.toInt64)) = hv h := by split <;> rfl
  simp only [z_ct, hv1, true_or, true_and, b44_0]
  exact hq
