/-! SPECS: Heap.newPair -/
def hPair (h : Hp) (k f sz : Nat) (a b : Int64) : Hp := pI (pB (pB (pI (rmJ h f (sz + 2)) k 1 (nI (sz + 2))) f (vp_updL (hB (rmJ h f (sz + 2)) f) sz a)) f (vp_updL (vp_updL (hB (rmJ h f (sz + 2)) f) sz a) (sz + 1) b)) k 2 (hI h k 2 + 1)
theorem sp_newPair {d : Nat} (hd : 4 ≤ d) {h : Hp} {k f sz : Nat} {a b : Int64} {Q : Option Value → Hp → Prop} (s : HpS h k f sz) (hq : Q (some (.long (vof 6 (nI sz)))) (hPair h k f sz a b)) : aEv d 41 [.ref k, .long a, .long b] h Q := by
  have h0 : 0 < d := by omega
  have hkf := kf_ne s
  obtain ⟨s1, s2, s3, s4, s5, s6, s7, s8, s9, s10, s11⟩ := s
  obtain ⟨g1, g2, g3, g4, g5, g6, g7, g8, -⟩ := rmJ_r h f (sz + 2) s5
  have kK := (g4 k s4).trans s1
  have fK := (g4 f s5).trans s3
  have kR : hR (rmJ h f (sz + 2)) k 0 = some f := by rw [g1]; exact s2
  have n2 : nI sz + 2 = nI (sz + 2) := by
    have : (2 : Int32) = nI 2 := by decide
    rw [this, nI_add]
  unfold aEv
  simp only [lv_args, z_v, Nat.reduceEqDiff, if_true, if_false, Nat.reduceAdd]
  simp only [b41_0, z_v, z_lg, lst1_d, ldel, z_h, s1, s2, s9, n2, true_and, and_true, Nat.reduceEqDiff, Nat.reduceAdd, or_self, or_false, false_or, false_and, if_false, and_self, and_false]
  refine grow_J mm_41 dX2_newPair_15 ml_2_21 dX2_newPair_18 fl_2_9 rfl (by unfold finOK; decide +kernel) (by omega) (by simp only [z_c]; omega) s1 s4 s2 s3 s5 s6 s7 s8 ?_ ?_ (by omega) (by omega) ?_
  · intro z hz
    simp only [List.mem_cons, List.not_mem_nil, or_false] at hz
    rcases hz with e | e | e | e
    · subst e; exact ⟨(fun q => nomatch q), (fun q => nomatch q)⟩
    · subst e; exact ⟨fun q => hkf (Value.ref.inj q), fun q => Nat.ne_of_lt s4 (Value.ref.inj q)⟩
    · subst e; exact ⟨(fun q => nomatch q), (fun q => nomatch q)⟩
    · subst e; exact ⟨(fun q => nomatch q), (fun q => nomatch q)⟩
  · intro z hz
    cases hz
  simp only [Nat.reduceAdd, b41_21, z_v, z_lg, z_h, z_c, kK, h0, n2, true_and, and_true, Nat.reduceEqDiff, Nat.reduceLeDiff]
  have hput : hI (pI (rmJ h f (sz + 2)) k 1 (nI (sz + 2))) k 1 = nI (sz + 2) := up2_eq
  have hin : ∀ i, i < sz + 2 → ¬ (nI i < 0 ∨ nI (sz + 2) ≤ nI i) := fun i hi z => z.elim (nI_pos (by omega)) (fun q => by have := (nI_leI (by omega) (by omega)).mp q; omega)
  refine sp_hput (f := f) kK kR fK (fun _ _ => ?_) ?_
  · rw [nI_toInt (by omega)]
    have : hN (pI (rmJ h f (sz + 2)) k 1 (nI (sz + 2))) f = hN (rmJ h f (sz + 2)) f := rfl
    rw [this]; omega
  rw [hput, if_neg (hin sz (by omega)), nI_clamp (by omega)]
  simp only [z_ct, Nat.reduceAdd]
  refine ⟨Or.inl rfl, ?_⟩
  simp only [b41_21, z_v, z_lg, z_h, z_c, kK, h0, nI_1, true_and, and_true, Nat.reduceEqDiff, Nat.reduceLeDiff, Nat.reduceAdd]
  refine sp_hput (f := f) kK kR fK (fun _ _ => ?_) ?_
  · rw [nI_toInt (by omega)]
    have : hN (pB (pI (rmJ h f (sz + 2)) k 1 (nI (sz + 2))) f (vp_updL (hB (rmJ h f (sz + 2)) f) sz a)) f = hN (rmJ h f (sz + 2)) f := rfl
    rw [this]; omega
  have hput2 : hI (pB (pI (rmJ h f (sz + 2)) k 1 (nI (sz + 2))) f (vp_updL (hB (rmJ h f (sz + 2)) f) sz a)) k 1 = nI (sz + 2) := up2_eq
  rw [hput2, if_neg (hin (sz + 1) (by omega)), nI_clamp (by omega)]
  simp only [z_ct, Nat.reduceAdd]
  refine ⟨Or.inl rfl, ?_⟩
  have hB2 : hB (pB (pI (rmJ h f (sz + 2)) k 1 (nI (sz + 2))) f (vp_updL (hB (rmJ h f (sz + 2)) f) sz a)) f = vp_updL (hB (rmJ h f (sz + 2)) f) sz a := up1_eq
  have hI2 : up2 (hI (rmJ h f (sz + 2))) k 1 (nI (sz + 2)) k 2 = hI h k 2 := by rw [up2_ne (by omega), g2]
  rw [hB2]
  simp only [b41_21, z_v, z_lg, z_h, z_c, kK, h0, hI2, true_and, and_true, Nat.reduceEqDiff, Nat.reduceLeDiff, Nat.reduceAdd]
  refine sp_of ?_
  simp only [z_ct, Nat.reduceAdd, true_or, true_and, b41_21]
  exact hq
