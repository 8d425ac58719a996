/-! slots for a call; a call's parts are there -/
/-- all but the slots and how many there are is alike -/
def FrS (h h' : Hp) : Prop := hR h' = hR h ∧ hL h' = hL h ∧ (∀ a, a < 130 → hK h' a = hK h a) ∧ (∀ a, a < 130 → a ≠ 121 → hA h' a = hA h a ∧ hB h' a = hB h a ∧ hN h' a = hN h a) ∧ (∀ a i, ¬ (a = 59 ∧ i = 44) → hI h' a i = hI h a i) ∧ hn h ≤ hn h'
section REV
variable {h h' : Hp} {Q : Option Value → Hp → Prop} {d : Nat} {G : PG} {q : Nat} {qv : Nat → Int64} {N : Int32} {A : Option Nat × Int64 × List TD × List Int64} {sl sl' : List Nat} {bs bs' : Nat} {pr : Option Nat} {bx bx' : List Int64} {ps : List (Nat × List Nat)} {pa : List (Int64 × Int64)} {ce : Nat} {gr : List Int64} {P : List Int32 × List Int32 × Nat × Nat × Nat × Int64 × Nat}
theorem frs_rf : FrS h h := ⟨rfl, rfl, fun _ _ => rfl, fun _ _ _ => ⟨rfl, rfl, rfl⟩, fun _ _ _ => rfl, Nat.le_refl _⟩
theorem frs_tr {h1 h2 : Hp} (a : FrS h h1) (b : FrS h1 h2) : FrS h h2 := by
  obtain ⟨a1, a2, a3, a4, a5, a6⟩ := a
  obtain ⟨b1, b2, b3, b4, b5, b6⟩ := b
  exact ⟨b1.trans a1, b2.trans a2, fun k hk => (b3 k hk).trans (a3 k hk), fun k hk hn => ⟨(b4 k hk hn).1.trans (a4 k hk hn).1, (b4 k hk hn).2.1.trans (a4 k hk hn).2.1, (b4 k hk hn).2.2.trans (a4 k hk hn).2.2⟩, fun k i hn => (b5 k i hn).trans (a5 k i hn), Nat.le_trans a6 b6⟩
theorem rm_frs (f : FrS h h') (S : SM G q qv h') (r : RM G q qv (A, (sl, bs, pr), (bx, ps, pa, ce, gr), P) h) (m : MXb sl' bs' pr bx' ps h') : RM G q qv (A, (sl', bs', pr), (bx', ps, pa, ce, gr), P) h' := by
  obtain ⟨a1, a2, a3, a4, a5, a6, a7, a8, a9, a10, a11, a12⟩ := r
  obtain ⟨f1, f2, f3, f4, f5, f6⟩ := f
  have fI : ∀ i, i ≠ 44 → hI h' 59 i = hI h 59 i := fun i hi => f5 59 i (fun c => hi c.2)
  have q125 := f4 125 (by decide) (by decide)
  have q122 := f4 122 (by decide) (by decide)
  have q123 := f4 123 (by decide) (by decide)
  have q124 := f4 124 (by decide) (by decide)
  have q112 := f4 112 (by decide) (by decide)
  have q113 := f4 113 (by decide) (by decide)
  have q126 := f4 126 (by decide) (by decide)
  have q127 := f4 127 (by decide) (by decide)
  have q128 := f4 128 (by decide) (by decide)
  refine ⟨S, ?_, ?_, ?_, m, ?_, ?_, ?_, (fI 68 (by decide)).trans a9, (fI 69 (by decide)).trans a10, (fI 71 (by decide)).trans a11, a12⟩
  · unfold MXc at a2 ⊢; rw [f2, fI 66 (by decide), fI 67 (by decide)]; exact a2
  · unfold MXt at a3 ⊢; rw [fI 50 (by decide), q122.1, q122.2.2, q123.1, q123.2.2, q124.1, q124.2.2]; exact a3
  · unfold MXw at a4 ⊢; rw [fI 52 (by decide), q125.2.1, q125.2.2]; exact a4
  · unfold MXs at a6 ⊢; rw [fI 31 (by decide), fI 39 (by decide), q112.2.1, q112.2.2, q113.2.1, q113.2.2, q126.2.1, q126.2.2]; exact a6
  · unfold MXp at a7 ⊢; rw [fI 55 (by decide), fI 57 (by decide), q127.1, q127.2.2, q128.1, q128.2.2]; exact a7
  · unfold MXd at a8 ⊢; rw [fI 58 (by decide), fI 59 (by decide), fI 61 (by decide), f2]; exact a8
theorem s2_loop {n tp : Nat} (s : Sk h) (e44 : hI h 59 44 = nI tp) (hl : tp + n ≤ hN h 121) (h2 : hN h 121 ≤ 262144) (hq : ∀ f, (∀ i, i < tp → f i = hA h 121 i) → (∀ i, tp ≤ i → i < tp + n → f i = -1) → Q none (pI (pA h 121 f) 59 44 (nI (tp + n)))) : ∀ (m j : Nat) (f : Nat → Int32), j + m = n → (∀ i, i < tp → f i = hA h 121 i) → (∀ i, tp ≤ i → i < tp + j → f i = -1) → aWP d 261 31 [(2, .int (nI j)), (0, .ref 59), (1, .int (nI n))] [] (pA h 121 f) Q := by
  intro m
  induction m with
  | zero =>
    intro j f hj f1 f2
    have hj : j = n := by omega
    subst hj
    have fin := hq f f1 f2
    simp only [lv_args, z_v, z_lg, z_h, z_u, z_u1, z_c, z_ct, z_sk, sbne, lst1_d, ldel, lst2_d, ldel2, z_sw, z_rok, zi, eq_self, List.map_cons, List.map_nil, List.append_nil, List.nil_append, List.cons_append, Int32.reduceLT, Int32.reduceLE, Int32.reduceAdd, Int32.reduceSub, Int32.reduceMul, Int32.reduceToInt, Int32.reduceToNatClampNeg, Int.reduceLT, Int.reduceLE, Int.reduceNeg, true_and, and_true, or_self, or_false, false_or, false_and, and_false, true_or, or_true, if_true, if_false, ne_eq, Classical.not_not, not_true_eq_false, not_false_eq_true, true_implies, false_implies, implies_true, Nat.reduceEqDiff, Nat.reduceAdd, Nat.reduceLeDiff, Nat.reduceSub, reduceCtorEq, reduceIte, b261_31]
    simp (disch := omega) only [nI_leN]
    refine ⟨fun _ => ?_, fun c => absurd (Nat.le_refl _) c⟩
    simp only [lv_args, z_v, z_lg, z_h, z_u, z_u1, z_c, z_ct, z_sk, sbne, lst1_d, ldel, lst2_d, ldel2, z_sw, z_rok, zi, eq_self, List.map_cons, List.map_nil, List.append_nil, List.nil_append, List.cons_append, Int32.reduceLT, Int32.reduceLE, Int32.reduceAdd, Int32.reduceSub, Int32.reduceMul, Int32.reduceToInt, Int32.reduceToNatClampNeg, Int.reduceLT, Int.reduceLE, Int.reduceNeg, true_and, and_true, or_self, or_false, false_or, false_and, and_false, true_or, or_true, if_true, if_false, ne_eq, Classical.not_not, not_true_eq_false, not_false_eq_true, true_implies, false_implies, implies_true, Nat.reduceEqDiff, Nat.reduceAdd, Nat.reduceLeDiff, Nat.reduceSub, reduceCtorEq, reduceIte, b261_54, skM s, e44, nI_add]
    exact fin
  | succ m ih =>
    intro j f hj f1 f2
    have next := ih (j + 1) (upd f (tp + j) (-1)) (by omega) (fun i hi => by
      have : upd f (tp + j) (-1) i = f i := if_neg (by omega)
      rw [this]; exact f1 i hi) (fun i h1 h2 => by
      by_cases c : i = tp + j
      · subst c; exact if_pos rfl
      · have : upd f (tp + j) (-1) i = f i := if_neg c
        rw [this]; exact f2 i h1 (by omega))
    rw [← pA_pA h 121 f (upd f (tp + j) (-1))] at next
    simp only [lv_args, z_v, z_lg, z_h, z_u, z_u1, z_c, z_ct, z_sk, sbne, lst1_d, ldel, lst2_d, ldel2, z_sw, z_rok, zi, eq_self, List.map_cons, List.map_nil, List.append_nil, List.nil_append, List.cons_append, Int32.reduceLT, Int32.reduceLE, Int32.reduceAdd, Int32.reduceSub, Int32.reduceMul, Int32.reduceToInt, Int32.reduceToNatClampNeg, Int.reduceLT, Int.reduceLE, Int.reduceNeg, true_and, and_true, or_self, or_false, false_or, false_and, and_false, true_or, or_true, if_true, if_false, ne_eq, Classical.not_not, not_true_eq_false, not_false_eq_true, true_implies, false_implies, implies_true, Nat.reduceEqDiff, Nat.reduceAdd, Nat.reduceLeDiff, Nat.reduceSub, reduceCtorEq, reduceIte, b261_31]
    simp (disch := omega) only [nI_leN]
    refine ⟨fun c => absurd c (by omega), fun _ => ?_⟩
    simp only [lv_args, z_v, z_lg, z_h, z_u, z_u1, z_c, z_ct, z_sk, sbne, lst1_d, ldel, lst2_d, ldel2, z_sw, z_rok, zi, eq_self, List.map_cons, List.map_nil, List.append_nil, List.nil_append, List.cons_append, Int32.reduceLT, Int32.reduceLE, Int32.reduceAdd, Int32.reduceSub, Int32.reduceMul, Int32.reduceToInt, Int32.reduceToNatClampNeg, Int.reduceLT, Int.reduceLE, Int.reduceNeg, true_and, and_true, or_self, or_false, false_or, false_and, and_false, true_or, or_true, if_true, if_false, ne_eq, Classical.not_not, not_true_eq_false, not_false_eq_true, true_implies, false_implies, implies_true, Nat.reduceEqDiff, Nat.reduceAdd, Nat.reduceLeDiff, Nat.reduceSub, reduceCtorEq, reduceIte, b261_36, skM s, srM s, e44, nI_add]
    simp (disch := omega) only [nI_ti, nI_cl, le0N, ltNN, true_and]
    refine ⟨by omega, ?_⟩
    try simp only [lv_args, z_v, z_lg, z_h, z_u, z_u1, z_c, z_ct, z_sk, sbne, lst1_d, ldel, lst2_d, ldel2, z_sw, z_rok, zi, eq_self, List.map_cons, List.map_nil, List.append_nil, List.nil_append, List.cons_append, Int32.reduceLT, Int32.reduceLE, Int32.reduceAdd, Int32.reduceSub, Int32.reduceMul, Int32.reduceToInt, Int32.reduceToNatClampNeg, Int.reduceLT, Int.reduceLE, Int.reduceNeg, true_and, and_true, or_self, or_false, false_or, false_and, and_false, true_or, or_true, if_true, if_false, ne_eq, Classical.not_not, not_true_eq_false, not_false_eq_true, true_implies, false_implies, implies_true, Nat.reduceEqDiff, Nat.reduceAdd, Nat.reduceLeDiff, Nat.reduceSub, reduceCtorEq, reduceIte, b261_36, nI_1]
    exact next
theorem sp_slots {n : Nat} (S : SM G q qv h) (M : MXb sl bs pr bx ps h) (hd : 5 < d) (hl : sl.length + n ≤ 252000) (hq : ∀ h', FrS h h' → SM G q qv h' → MXb (sl ++ List.replicate n 0) bs pr bx ps h' → Q none h') : aEv d 261 [.ref 59, .int (nI n)] h Q := by
  have lL : ∀ z ∈ [((0 : Nat), Value.ref 59), (1, Value.int (nI n))], ∀ q, z.2 = .ref q → q ≠ 121 ∧ q < 130 := fun z hz q e => by
    simp only [List.mem_cons, List.not_mem_nil, or_false] at hz
    rcases hz with rfl | rfl
    · injection e with e
      subst e
      exact ⟨by decide, by decide⟩
    · cases e
  have fill : ∀ h1 : Hp, SM G q qv h1 → MXb sl bs pr bx ps h1 → FrS h h1 → sl.length + n ≤ hN h1 121 → aWP d 261 29 [(0, .ref 59), (1, .int (nI n))] [] h1 Q := by
    intro h1 S1 M1 F1 hle
    have s := S1.1
    obtain ⟨⟨⟨m1, m2, m3, m4, m5, m6, m7⟩, M2, M3⟩, rl, fl, ⟨B1, B2, B3, B4, B5, B6, B7⟩⟩ := mxb_0.mp M1
    have h262 : hN h1 121 ≤ 262144 := by omega
    have lv : ∀ b, (b + 2 ∈ sl ++ List.replicate n 0 ∨ b ∈ kfl ps) → (b + 2 ∈ sl ∨ b ∈ kfl ps) := fun b hb => by
      rcases hb with hb | hb
      · rcases List.mem_append.mp hb with hb | hb
        · exact Or.inl hb
        · have := List.eq_of_mem_replicate hb
          omega
      · exact Or.inr hb
    have lp := s2_loop (h := h1) (n := n) (tp := sl.length) (d := d) (Q := Q) s m1 hle h262 (fun f f1 f2 => by
      have eA : hA (pI (pA h1 121 f) 59 44 (nI (sl.length + n))) 121 = f := (up1_eq : va_up (hA h1) 121 f 121 = f)
      refine hq _ (frs_tr F1 ⟨rfl, rfl, fun _ _ => rfl, fun a _ h2 => ⟨up1_ne h2, rfl, rfl⟩, fun a i hn => up2_ne hn, Nat.le_refl _⟩) (sm_I (sm_A (by decide) S1)) (mxb_0.mpr ⟨⟨⟨by rw [List.length_append, List.length_replicate]; rfl, by rw [List.length_append, List.length_replicate]; exact hle, m3, m4, m5, m6, m7⟩, M2, M3⟩, rl, fl, ⟨fun j c e => ?_, B2, fun b hb => B3 b (lv b hb), fun b b' hb hb' e => B4 b b' (lv b hb) (lv b' hb') e, B5, B6, fun x hx => ⟨(B7 x hx).1, fun b hb => (B7 x hx).2 b (lv b hb)⟩⟩⟩)
      rw [eA]
      by_cases cj : j < sl.length
      · rw [List.getElem?_append_left cj] at e
        rw [f1 j cj]
        exact B1 j c e
      · rw [List.getElem?_append_right (by omega)] at e
        have e2 := List.eq_of_mem_replicate (List.mem_of_getElem? e)
        have hj := g_lt e
        rw [List.length_replicate] at hj
        exact Or.inl ⟨e2, f2 j (by omega) (by omega)⟩) n 0 (hA h1 121) (by omega) (fun _ _ => rfl) (fun i h1 h2 => absurd h2 (by omega))
    rw [pA_id] at lp
    simp only [lv_args, z_v, z_lg, z_h, z_u, z_u1, z_c, z_ct, z_sk, sbne, lst1_d, ldel, lst2_d, ldel2, z_sw, z_rok, zi, eq_self, List.map_cons, List.map_nil, List.append_nil, List.nil_append, List.cons_append, Int32.reduceLT, Int32.reduceLE, Int32.reduceAdd, Int32.reduceSub, Int32.reduceMul, Int32.reduceToInt, Int32.reduceToNatClampNeg, Int.reduceLT, Int.reduceLE, Int.reduceNeg, true_and, and_true, or_self, or_false, false_or, false_and, and_false, true_or, or_true, if_true, if_false, ne_eq, Classical.not_not, not_true_eq_false, not_false_eq_true, true_implies, false_implies, implies_true, Nat.reduceEqDiff, Nat.reduceAdd, Nat.reduceLeDiff, Nat.reduceSub, reduceCtorEq, reduceIte, b261_29]
    exact lp
  have key : ∀ (m : Nat) (h1 : Hp), 262144 ≤ hN h1 121 * 4 ^ m → SM G q qv h1 → MXb sl bs pr bx ps h1 → FrS h h1 → aWP d 261 0 [(0, .ref 59), (1, .int (nI n))] [] h1 Q := by
    intro m
    induction m with
    | zero =>
      intro h1 hm S1 M1 F1
      have s := S1.1
      obtain ⟨⟨m1, m2, m3, m4, m5, m6, m7⟩, _⟩ := id M1
      have hm : 262144 ≤ hN h1 121 := by simpa using hm
      have h262 : hN h1 121 ≤ 262144 := by omega
      simp only [lv_args, z_v, z_lg, z_h, z_u, z_u1, z_c, z_ct, z_sk, sbne, lst1_d, ldel, lst2_d, ldel2, z_sw, z_rok, zi, eq_self, List.map_cons, List.map_nil, List.append_nil, List.nil_append, List.cons_append, Int32.reduceLT, Int32.reduceLE, Int32.reduceAdd, Int32.reduceSub, Int32.reduceMul, Int32.reduceToInt, Int32.reduceToNatClampNeg, Int.reduceLT, Int.reduceLE, Int.reduceNeg, true_and, and_true, or_self, or_false, false_or, false_and, and_false, true_or, or_true, if_true, if_false, ne_eq, Classical.not_not, not_true_eq_false, not_false_eq_true, true_implies, false_implies, implies_true, Nat.reduceEqDiff, Nat.reduceAdd, Nat.reduceLeDiff, Nat.reduceSub, reduceCtorEq, reduceIte, b261_0, skM s, srM s, m1, nI_add, Nat.reduceLeDiff]
      simp (disch := omega) only [nI_leN]
      exact ⟨fun c => fill h1 S1 M1 F1 c, fun c => absurd (by omega) c⟩
    | succ m ih =>
      intro h1 hm S1 M1 F1
      have s := S1.1
      obtain ⟨⟨⟨m1, m2, m3, m4, m5, m6, m7⟩, M2, M3⟩, rl, fl, ⟨B1, B2, B3, B4, B5, B6, B7⟩⟩ := mxb_0.mp M1
      have h262 : hN h1 121 ≤ 262144 := by omega
      have h1024 : 1024 ≤ hN h1 121 := by omega
      have h130 := s.2.2
      simp only [lv_args, z_v, z_lg, z_h, z_u, z_u1, z_c, z_ct, z_sk, sbne, lst1_d, ldel, lst2_d, ldel2, z_sw, z_rok, zi, eq_self, List.map_cons, List.map_nil, List.append_nil, List.nil_append, List.cons_append, Int32.reduceLT, Int32.reduceLE, Int32.reduceAdd, Int32.reduceSub, Int32.reduceMul, Int32.reduceToInt, Int32.reduceToNatClampNeg, Int.reduceLT, Int.reduceLE, Int.reduceNeg, true_and, and_true, or_self, or_false, false_or, false_and, and_false, true_or, or_true, if_true, if_false, ne_eq, Classical.not_not, not_true_eq_false, not_false_eq_true, true_implies, false_implies, implies_true, Nat.reduceEqDiff, Nat.reduceAdd, Nat.reduceLeDiff, Nat.reduceSub, reduceCtorEq, reduceIte, b261_0, skM s, srM s, m1, nI_add, Nat.reduceLeDiff]
      simp (disch := omega) only [nI_leN]
      refine ⟨fun c => fill h1 S1 M1 F1 c, fun c => ?_⟩
      obtain ⟨g1, g2⟩ := gro_I s (a := 121) (by decide) (4 * hN h1 121)
      have e := (rmI_r h1 121 (4 * hN h1 121) (by omega)).2.2.2.2.2.2.2.2.1
      rw [if_neg (by omega), Nat.max_eq_left (by omega)] at e
      have hcp : cpR 121 = 262144 := rfl
      have S2 : SM G q qv (rmI h1 121 (4 * hN h1 121)) := sm_gro g1 S1 (by decide) (by decide) (by rw [e, hcp]; omega)
      have z4 : (4 : Int32) = nI 4 := rfl
      have next : aWP d 261 0 [(0, .ref 59), (1, .int (nI n))] [] (rmI h1 121 (4 * hN h1 121)) Q := by
        refine ih _ ?_ S2 ?_ (frs_tr F1 ⟨g1.1, g1.2.2.1, g1.2.2.2.1, g1.2.2.2.2.1, fun a i _ => by rw [g1.2.1], gro_hn g1⟩)
        · rw [e, Nat.mul_comm 4, Nat.mul_assoc, ← Nat.pow_succ']
          exact hm
        · clear ih S2
          generalize rmI h1 121 (4 * hN h1 121) = H at *
          have i1 := g1.2.1
          have q116 := g1.2.2.2.2.1 116 (by decide) (by decide)
          have q117 := g1.2.2.2.2.1 117 (by decide) (by decide)
          have q118 := g1.2.2.2.2.1 118 (by decide) (by decide)
          have q119 := g1.2.2.2.2.1 119 (by decide) (by decide)
          have q120 := g1.2.2.2.2.1 120 (by decide) (by decide)
          refine mxb_0.mpr ⟨⟨⟨by rw [i1]; exact m1, by omega, by rw [i1]; exact m3, m4, by rw [i1]; exact m5, m6, by omega⟩, ?_, ?_⟩, rl, fl, ⟨fun j c ej => ?_, ?_, ?_, B4, ?_, B6, ?_⟩⟩
          · rw [i1, q116.1, q116.2.2, q117.1, q117.2.2, q118.2.2]; exact M2
          · rw [q119.2.2, q120.2.2]; exact M3
          · have := g_lt ej
            rw [g2 j (by omega)]
            exact B1 j c ej
          · rw [q118.1]; exact B2
          · rw [q119.2.2, q119.2.1]; exact B3
          · rw [q120.1, i1]; exact B5
          · rw [q119.2.2]; exact B7
      simp only [lv_args, z_v, z_lg, z_h, z_u, z_u1, z_c, z_ct, z_sk, sbne, lst1_d, ldel, lst2_d, ldel2, z_sw, z_rok, zi, eq_self, List.map_cons, List.map_nil, List.append_nil, List.nil_append, List.cons_append, Int32.reduceLT, Int32.reduceLE, Int32.reduceAdd, Int32.reduceSub, Int32.reduceMul, Int32.reduceToInt, Int32.reduceToNatClampNeg, Int.reduceLT, Int.reduceLE, Int.reduceNeg, true_and, and_true, or_self, or_false, false_or, false_and, and_false, true_or, or_true, if_true, if_false, ne_eq, Classical.not_not, not_true_eq_false, not_false_eq_true, true_implies, false_implies, implies_true, Nat.reduceEqDiff, Nat.reduceAdd, Nat.reduceLeDiff, Nat.reduceSub, reduceCtorEq, reduceIte, b261_14, skM s, srM s, z4]
      refine grow_L (st := []) mm_261 dX13_slots_20 ml_13_455 dX13_slots_23 fl_13_98 rfl (by unfold finOK; decide +kernel) (by omega) s S1.2.1 S1.2.2.1 (s.1 59 (by decide)) (by decide) (s.2.1 59 43 rfl) (s.1 121 (by decide)) (by decide) (by decide) rt_m.2.2.2.2.1 lL (by decide) (by decide) ?_
      simp only [lv_args, z_v, z_lg, z_h, z_u, z_u1, z_c, z_ct, z_sk, sbne, lst1_d, ldel, lst2_d, ldel2, z_sw, z_rok, zi, eq_self, List.map_cons, List.map_nil, List.append_nil, List.nil_append, List.cons_append, Int32.reduceLT, Int32.reduceLE, Int32.reduceAdd, Int32.reduceSub, Int32.reduceMul, Int32.reduceToInt, Int32.reduceToNatClampNeg, Int.reduceLT, Int.reduceLE, Int.reduceNeg, true_and, and_true, or_self, or_false, false_or, false_and, and_false, true_or, or_true, if_true, if_false, ne_eq, Classical.not_not, not_true_eq_false, not_false_eq_true, true_implies, false_implies, implies_true, Nat.reduceEqDiff, Nat.reduceAdd, Nat.reduceLeDiff, Nat.reduceSub, reduceCtorEq, reduceIte, b261_26]
      exact next
  have m7 := M.1.2.2.2.2.2.2
  unfold aEv
  simp only [lv_args, z_v, z_lg, z_h, z_u, z_u1, z_c, z_ct, z_sk, sbne, lst1_d, ldel, lst2_d, ldel2, z_sw, z_rok, zi, eq_self, List.map_cons, List.map_nil, List.append_nil, List.nil_append, List.cons_append, Int32.reduceLT, Int32.reduceLE, Int32.reduceAdd, Int32.reduceSub, Int32.reduceMul, Int32.reduceToInt, Int32.reduceToNatClampNeg, Int.reduceLT, Int.reduceLE, Int.reduceNeg, true_and, and_true, or_self, or_false, false_or, false_and, and_false, true_or, or_true, if_true, if_false, ne_eq, Classical.not_not, not_true_eq_false, not_false_eq_true, true_implies, false_implies, implies_true, Nat.reduceEqDiff, Nat.reduceAdd, Nat.reduceLeDiff, Nat.reduceSub, reduceCtorEq, reduceIte]
  exact key 4 h (by omega) S M frs_rf
end REV
