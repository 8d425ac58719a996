/-! SPECS: the heap of the machine (class Heap) -/
/-- a Heap at place k with its row at f, sz fields in use -/
def HpS (h : Hp) (k f sz : Nat) : Prop := hK h k = 3 ∧ hR h k 0 = some f ∧ hK h f = 15 ∧ k < hn h ∧ f < hn h ∧ hn h < SB ∧ (∀ a b, hR h a b ≠ some (hn h)) ∧ (∀ a b, hR h a b = some f → a = k ∧ b = 0) ∧ hI h k 1 = nI sz ∧ sz ≤ hN h f ∧ hN h f ≤ 20000000
theorem sb_big : (100000000 : Nat) = 100000000 := rfl
theorem kf_ne {h : Hp} {k f sz : Nat} (s : HpS h k f sz) : k ≠ f := fun e => by
  obtain ⟨a, b, c, -⟩ := s
  rw [e] at a; omega
/-- Heap.newBinding -/
def hBind (h : Hp) (k f sz : Nat) (v : Int64) : Hp := pB (pI (rmJ h f (sz + 1)) k 1 (nI (sz + 1))) f (vp_updL (hB (rmJ h f (sz + 1)) f) sz v)
theorem sp_newBinding {d : Nat} (hd : 4 ≤ d) {h : Hp} {k f sz : Nat} {v : Int64} {Q : Option Value → Hp → Prop} (s : HpS h k f sz) (hf : f ≠ SB + 100) (hq : Q (some (.int (nI sz))) (hBind h k f sz v)) : aEv d 40 [.ref k, .long v] h Q := by
  have h0 : 0 < d := by omega
  have hkf := kf_ne s
  obtain ⟨s1, s2, s3, s4, s5, s6, s7, s8, s9, s10, s11⟩ := s
  have r1 := rmJ_r h f (sz + 1) s5
  obtain ⟨g1, g2, g3, g4, g5, g6, g7, g8, -⟩ := r1
  have kK := (g4 k s4).trans s1
  have fK := (g4 f s5).trans s3
  have kR : hR (rmJ h f (sz + 1)) k 0 = some f := by rw [g1]; exact s2
  unfold aEv
  simp only [lv_args, z_v, Nat.reduceEqDiff, if_true, if_false, Nat.reduceAdd]
  simp only [b40_0, z_v, z_lg, lst1_d, ldel, z_h, s1, s2, s9, true_and, and_true, Nat.reduceEqDiff, Nat.reduceAdd, or_self, or_false, false_or, false_and, if_false, nI_1, and_self, and_false]
  refine grow_J mm_40 dX2_newBinding_13 ml_2_21 dX2_newBinding_16 fl_2_9 rfl (by unfold finOK; decide +kernel) (by omega) (by simp only [z_c]; omega) s1 s4 s2 s3 s5 s6 s7 s8 ?_ ?_ (by omega) (by omega) ?_
  · intro z hz
    simp only [List.mem_cons, List.not_mem_nil, or_false] at hz
    rcases hz with e | e | e
    · subst e; exact ⟨(fun q => nomatch q), (fun q => nomatch q)⟩
    · subst e; exact ⟨fun q => hkf (Value.ref.inj q), fun q => Nat.ne_of_lt s4 (Value.ref.inj q)⟩
    · subst e; exact ⟨(fun q => nomatch q), (fun q => nomatch q)⟩
  · intro z hz
    cases hz
  simp only [Nat.reduceAdd, b40_19, z_v, z_lg, z_h, z_c, kK, h0, true_and, and_true, Nat.reduceEqDiff, Nat.reduceLeDiff, nI_1]
  have hput : hI (pI (rmJ h f (sz + 1)) k 1 (nI (sz + 1))) k 1 = nI (sz + 1) := up2_eq
  refine sp_hput (f := f) kK kR fK (fun _ _ => ?_) ?_
  · rw [nI_toInt (by omega)]
    have : hN (pI (rmJ h f (sz + 1)) k 1 (nI (sz + 1))) f = hN (rmJ h f (sz + 1)) f := rfl
    rw [this]; omega
  · rw [hput, if_neg (fun z => z.elim (nI_pos (by omega)) (fun q => by have := (nI_leI (by omega) (by omega)).mp q; omega)), nI_clamp (by omega)]
    simp only [z_ct, Nat.reduceAdd]
    refine ⟨Or.inl rfl, ?_⟩
    simp only [b40_19, z_v, z_lg, true_and, Nat.reduceEqDiff]
    exact hq
