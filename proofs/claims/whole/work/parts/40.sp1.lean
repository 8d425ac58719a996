/-! SPECS: Value, Fault, Math -/
/-- Value.of -/
def vof (k c : Int32) : Int64 := k.toInt64 <<< ((32 : Int32).toInt64 &&& 63) ||| (c.toInt64 &&& 4294967295)
/-- Value.kindOf -/
def vkd (v : Int64) : Int32 := (v.toUInt64 >>> ((32 : Int32).toInt64.toUInt64 &&& Int64.toUInt64 63)).toInt64.toInt32
theorem sp_of {d : Nat} {h : Hp} {k c : Int32} {Q : Option Value → Hp → Prop} (hq : Q (some (.long (vof k c))) h) : aEv d 157 [.int k, .int c] h Q := by
  unfold aEv
  simp only [lv_args, z_v, Nat.reduceEqDiff, if_false, Nat.reduceAdd]
  simp only [b157_0, z_v, z_lg, true_and, Nat.reduceEqDiff]
  exact hq
theorem sp_kindOf {d : Nat} {h : Hp} {v : Int64} {Q : Option Value → Hp → Prop} (hq : Q (some (.int (vkd v))) h) : aEv d 156 [.long v] h Q := by
  unfold aEv
  simp only [lv_args, z_v, Nat.reduceEqDiff, if_true, if_false, Nat.reduceAdd]
  simp only [b156_0, z_v, z_lg, true_and, Nat.reduceEqDiff]
  exact hq
theorem sp_contentOf {d : Nat} {h : Hp} {v : Int64} {Q : Option Value → Hp → Prop} (hq : Q (some (.int v.toInt32)) h) : aEv d 155 [.long v] h Q := by
  unfold aEv
  simp only [lv_args, z_v, Nat.reduceEqDiff, if_true, if_false, Nat.reduceAdd]
  simp only [b155_0, z_v, z_lg, true_and, Nat.reduceEqDiff]
  exact hq
theorem sp_truth {d : Nat} (hd : 1 ≤ d) {h : Hp} {b : Int32} {Q : Option Value → Hp → Prop} (hq : Q (some (.long (vof (if b = 0 then 2 else 3) 0))) h) : aEv d 158 [.int b] h Q := by
  have h0 : 0 < d := hd
  unfold aEv
  simp only [lv_args, z_v, Nat.reduceEqDiff, if_true, if_false, Nat.reduceAdd]
  simp only [b158_0, b158_4, b158_8, b158_9, z_v, z_lg, z_c, true_and, and_true, Nat.reduceEqDiff, Nat.reduceAdd, Nat.reduceLeDiff, h0]
  refine ⟨fun e => sp_of ?_, fun e => sp_of ?_⟩
  · rw [if_pos e] at hq
    simp only [z_ct, true_or, true_and, b158_9]
    exact hq
  · rw [if_neg e] at hq
    simp only [z_ct, true_or, true_and, b158_9]
    exact hq
theorem sp_forget {d : Nat} {h : Hp} {k : Nat} {Q : Option Value → Hp → Prop} (hk : hK h k = 2) (hq : Q none (pI (pI h k 0 0) k 1 (-1))) : aEv d 30 [.ref k] h Q := by
  unfold aEv
  simp only [lv_args, z_v, Nat.reduceEqDiff, if_false, Nat.reduceAdd]
  simp only [b30_0, z_v, z_lg, z_h, hk, true_and, Nat.reduceEqDiff]
  exact hq
theorem sp_isNone {d : Nat} {h : Hp} {k : Nat} {Q : Option Value → Hp → Prop} (hk : hK h k = 2) (hq : Q (some (.int (if hI h k 0 = 0 then 1 else 0))) h) : aEv d 32 [.ref k] h Q := by
  unfold aEv
  simp only [lv_args, z_v, Nat.reduceEqDiff, if_false, Nat.reduceAdd]
  simp only [b32_0, b32_7, b32_11, b32_12, z_v, z_lg, z_h, hk, true_and, Nat.reduceEqDiff, ne_eq, Classical.not_not]
  simp only [true_or, or_true, true_and]
  refine ⟨fun e => ?_, fun e => ?_⟩
  · rw [if_neg e] at hq; exact hq
  · rw [if_pos e] at hq; exact hq
theorem sp_tell {d : Nat} {h : Hp} {k : Nat} {a b : Int32} {Q : Option Value → Hp → Prop} (hk : hK h k = 2) (hq : Q none (if hI h k 0 = 0 then pI (pI h k 0 a) k 1 b else h)) : aEv d 33 [.ref k, .int a, .int b] h Q := by
  unfold aEv
  simp only [lv_args, z_v, Nat.reduceEqDiff, if_false, Nat.reduceAdd]
  simp only [b33_0, b33_7, b33_17, z_v, z_lg, z_h, hk, true_and, Nat.reduceEqDiff, ne_eq, Classical.not_not]
  refine ⟨fun e => ?_, fun e => ?_⟩
  · rw [if_neg e] at hq; exact hq
  · rw [if_pos e] at hq; exact hq
theorem sp_max {d : Nat} {h : Hp} {a b : Int32} {Q : Option Value → Hp → Prop} (hq : Q (some (.int (if a < b then b else a))) h) : aEv d 284 [.int a, .int b] h Q := by
  unfold aEv
  simp only [lv_args, z_v, Nat.reduceEqDiff, if_false, Nat.reduceAdd]
  simp only [b284_0, b284_5, b284_9, b284_10, z_v, z_lg, true_and, Nat.reduceEqDiff]
  refine ⟨fun e => ?_, fun e => ?_⟩
  · rw [if_pos e] at hq; exact hq
  · rw [if_neg e] at hq; exact hq
theorem sp_min {d : Nat} {h : Hp} {a b : Int32} {Q : Option Value → Hp → Prop} (hq : Q (some (.int (if b < a then b else a))) h) : aEv d 285 [.int a, .int b] h Q := by
  unfold aEv
  simp only [lv_args, z_v, Nat.reduceEqDiff, if_false, Nat.reduceAdd]
  simp only [b285_0, b285_5, b285_9, b285_10, z_v, z_lg, true_and, Nat.reduceEqDiff]
  refine ⟨fun e => ?_, fun e => ?_⟩
  · rw [if_pos e] at hq; exact hq
  · rw [if_neg e] at hq; exact hq
/-- Heap.look -/
theorem sp_look {d : Nat} {h : Hp} {k f : Nat} {p : Int32} {Q : Option Value → Hp → Prop} (hk : hK h k = 3) (hr : hR h k 0 = some f) (hf : hK h f = 15) (hne : (f = SB + 100) = False) (hb : ¬ p < 0 → ¬ hI h k 1 ≤ p → 0 ≤ p.toInt ∧ p.toInt < hN h f) (hq : Q (some (.long (if p < 0 ∨ hI h k 1 ≤ p then 0 else hB h f p.toNatClampNeg))) h) : aEv d 39 [.ref k, .int p] h Q := by
  unfold aEv
  simp only [lv_args, z_v, Nat.reduceEqDiff, if_false, Nat.reduceAdd]
  simp only [b39_0, b39_4, b39_12, b39_21, b39_22, z_v, z_lg, z_h, hk, hr, hf, hne, true_and, Nat.reduceEqDiff]
  refine ⟨fun e => ?_, fun e => ⟨fun e2 => ?_, fun e2 => ⟨hb e e2, ?_⟩⟩⟩
  · rw [if_pos (Or.inl e)] at hq; exact hq
  · rw [if_pos (Or.inr e2)] at hq; exact hq
  · rw [if_neg (fun z => z.elim e e2)] at hq; exact hq
/-- Heap.put -/
theorem sp_hput {d : Nat} {h : Hp} {k f : Nat} {p : Int32} {v : Int64} {Q : Option Value → Hp → Prop} (hk : hK h k = 3) (hr : hR h k 0 = some f) (hf : hK h f = 15) (hb : ¬ p < 0 → ¬ hI h k 1 ≤ p → 0 ≤ p.toInt ∧ p.toInt < hN h f) (hq : Q none (if p < 0 ∨ hI h k 1 ≤ p then h else pB h f (vp_updL (hB h f) p.toNatClampNeg v))) : aEv d 43 [.ref k, .int p, .long v] h Q := by
  unfold aEv
  simp only [lv_args, z_v, Nat.reduceEqDiff, if_false, Nat.reduceAdd]
  simp only [b43_0, b43_4, b43_12, b43_19, z_v, z_lg, z_h, hk, hr, hf, true_and, Nat.reduceEqDiff]
  refine ⟨fun e => ?_, fun e => ⟨fun e2 => ?_, fun e2 => ⟨hb e e2, ?_⟩⟩⟩
  · rw [if_pos (Or.inl e)] at hq; exact hq
  · rw [if_pos (Or.inr e2)] at hq; exact hq
  · rw [if_neg (fun z => z.elim e e2)] at hq; exact hq
