/-! SPECS: Arrays.copyOf, Rows.withRoom -/
theorem nI_small {n : Nat} (h : n ≤ 60000000) : (nI n).toInt = (n : Int) ∧ (nI n).toNatClampNeg = n := ⟨nI_toInt (by omega), nI_clamp (by omega)⟩
/-- the new row behind Arrays.copyOf to a length that is another one -/
def cpI (h : Hp) (k n : Nat) : Hp := pA (nA h 14 n) (hn h) (va_cpy (hA h k) (fun _ => 0) 0 0 (min (hN h k) n))
theorem sp_copyI {d : Nat} (hd : 1 ≤ d) {h : Hp} {k n : Nat} {Q : Option Value → Hp → Prop} (hk : hK h k = 14) (hkn : k < hn h) (hsb : hn h < SB) (hn0 : n ≤ 60000000) (hl : hN h k ≤ 60000000) (hne : ¬ n = hN h k) (hq : Q (some (.ref (hn h))) (cpI h k n)) : aEv d 279 [.ref k, .int (nI n)] h Q := by
  have h0 : 0 < d := hd
  obtain ⟨n1, n2⟩ := nI_small hn0
  obtain ⟨l1, l2⟩ := nI_small hl
  have hnn : ¬ nI n = nI (hN h k) := fun e => hne ((nI_eq (by omega) (by omega)).mp e)
  have kne : (k = hn h) = False := eq_false (Nat.ne_of_lt hkn)
  unfold aEv
  simp only [lv_args, z_v, Nat.reduceEqDiff, if_false, Nat.reduceAdd]
  simp only [b279_0, z_v, z_lg, z_h, hk, true_and, and_true, Nat.reduceEqDiff, Nat.reduceLeDiff, ne_eq, hnn, not_false_eq_true, true_implies, not_true_eq_false, false_implies]
  simp only [b279_14, z_v, z_lg, lst1_d, ldel, z_h, z_u1, hk, kne, if_false, n1, n2, hsb, h0, z_c, true_and, and_true, Nat.reduceEqDiff, Nat.reduceLeDiff, Nat.reduceAdd, or_self, false_and, or_false]
  refine ⟨⟨by omega, by omega⟩, sp_min ?_⟩
  simp only [z_ct, true_or, true_and]
  have hmin : (if nI n < nI (hN h k) then nI n else nI (hN h k)) = nI (min (hN h k) n) := by
    by_cases e : n < hN h k
    · rw [if_pos ((nI_ltI (by omega) (by omega)).mpr e), Nat.min_eq_right (by omega)]
    · rw [if_neg (fun z => e ((nI_ltI (by omega) (by omega)).mp z)), Nat.min_eq_left (by omega)]
  rw [hmin]
  obtain ⟨m1, m2⟩ := nI_small (n := min (hN h k) n) (by omega)
  have kne' : k ≠ hn h := Nat.ne_of_lt hkn
  have z0 : (0 : Int32).toInt = 0 := by decide
  have z1 : (0 : Int32).toNatClampNeg = 0 := by decide
  have ka : hK (nA h 14 n) k = 14 := (up1_ne kne').trans hk
  have kb : hK (nA h 14 n) (hn h) = 14 := up1_eq
  refine (k_acp mm_279 dJ7_copyOf_59c91_28 ml_14_150 ka kb (Or.inl rfl) kne').mpr ⟨⟨h0, by rw [z0]; omega, by rw [z0]; omega, by rw [m1]; omega, ?_, ?_, ?_⟩, ?_⟩
  · rw [z0, m1, show hN (nA h 14 n) k = hN h k from up1_ne kne']; omega
  · rw [z0, m1, show hN (nA h 14 n) (hn h) = n from up1_eq]; omega
  · simp only [z_c]; omega
  · rw [if_pos rfl, z1, m2, show hA (nA h 14 n) k = hA h k from up1_ne kne', show hA (nA h 14 n) (hn h) = (fun _ => 0) from up1_eq]
    simp only [Nat.reduceAdd, b279_14, z_v, z_lg, true_and, Nat.reduceEqDiff]
    exact hq
