/-! the boxes' rows made longer -/
def gwH (h : Hp) (n j : Nat) : Hp := pA (pB (nA (nA h 15 n) 14 n) (hn h) (va_cpy (hB h 119) (fun _ => 0) 0 0 j)) (hn h + 1) (va_cpy (hA h 120) (fun _ => 0) 0 0 j)
def gwF (h : Hp) (n : Nat) : Hp := nS (nS (gwH h n (hN h 119)) 119 (hn h)) 120 (hn h + 1)
section REP
variable {h h' : Hp} {Q : Option Value → Hp → Prop} {d : Nat} {G : PG} {q : Nat} {qv : Nat → Int64} {n : Nat}
theorem gwF_r (h130 : 130 ≤ hn h) : hR (gwF h n) = hR h ∧ hI (gwF h n) = hI h ∧ hL (gwF h n) = hL h ∧ (∀ a, a < 130 → hK (gwF h n) a = hK h a) ∧ (∀ a, a < 130 → a ≠ 119 → a ≠ 120 → hA (gwF h n) a = hA h a ∧ hB (gwF h n) a = hB h a ∧ hN (gwF h n) a = hN h a) ∧ hN (gwF h n) 119 = n ∧ hN (gwF h n) 120 = n ∧ (∀ i, i < hN h 119 → hB (gwF h n) 119 i = hB h 119 i) ∧ (∀ i, i < hN h 119 → hA (gwF h n) 120 i = hA h 120 i) ∧ hn (gwF h n) = hn h + 2 ∧ hu (gwF h n) = hu h + n + n := by
  refine ⟨rfl, rfl, rfl, fun a ha => ?_, fun a ha h1 h2 => ⟨?_, ?_, ?_⟩, ?_, ?_, fun i hi => ?_, fun i hi => ?_, rfl, rfl⟩
  · show va_up (va_up (hK h) (hn h) 15) (hn h + 1) 14 a = _
    rw [up1_ne (by omega), up1_ne (by omega)]
  · show swp (swp (va_up (va_up (va_up (hA h) (hn h) _) (hn h + 1) _) (hn h + 1) _) 119 (hn h)) 120 (hn h + 1) a = _
    unfold swp
    rw [if_neg h2, if_neg (by omega), if_neg h1, if_neg (by omega), up1_ne (by omega), up1_ne (by omega), up1_ne (by omega)]
  · show swp (swp (va_up (va_up (va_up (hB h) (hn h) _) (hn h + 1) _) (hn h) _) 119 (hn h)) 120 (hn h + 1) a = _
    unfold swp
    rw [if_neg h2, if_neg (by omega), if_neg h1, if_neg (by omega), up1_ne (by omega), up1_ne (by omega), up1_ne (by omega)]
  · show swp (swp (va_up (va_up (hN h) (hn h) n) (hn h + 1) n) 119 (hn h)) 120 (hn h + 1) a = _
    unfold swp
    rw [if_neg h2, if_neg (by omega), if_neg h1, if_neg (by omega), up1_ne (by omega), up1_ne (by omega)]
  · show swp (swp (va_up (va_up (hN h) (hn h) n) (hn h + 1) n) 119 (hn h)) 120 (hn h + 1) 119 = _
    unfold swp
    rw [if_neg (by omega), if_neg (by omega), if_pos rfl, up1_ne (by omega), up1_eq]
  · show swp (swp (va_up (va_up (hN h) (hn h) n) (hn h + 1) n) 119 (hn h)) 120 (hn h + 1) 120 = _
    unfold swp
    rw [if_pos rfl, if_neg (by omega), if_neg (by omega), up1_eq]
  · show swp (swp (va_up (va_up (va_up (hB h) (hn h) _) (hn h + 1) _) (hn h) (va_cpy (hB h 119) (fun _ => 0) 0 0 (hN h 119))) 119 (hn h)) 120 (hn h + 1) 119 i = _
    unfold swp
    rw [if_neg (by omega), if_neg (by omega), if_pos rfl, up1_eq]
    unfold va_cpy
    rw [if_pos (by omega), Nat.sub_zero, Nat.zero_add]
  · show swp (swp (va_up (va_up (va_up (hA h) (hn h) _) (hn h + 1) _) (hn h + 1) (va_cpy (hA h 120) (fun _ => 0) 0 0 (hN h 119))) 119 (hn h)) 120 (hn h + 1) 120 i = _
    unfold swp
    rw [if_pos rfl, if_neg (by omega), if_neg (by omega), up1_eq]
    unfold va_cpy
    rw [if_pos (by omega), Nat.sub_zero, Nat.zero_add]
theorem gwF_v (h130 : 130 ≤ hn h) : hv (gwF h n) 121 = hv h 121 := by
  show hvS (hvS (hv h) 119 (hn h)) 120 (hn h + 1) 121 = _
  unfold hvS
  rw [if_neg (by decide), if_neg (by omega), if_neg (by decide), if_neg (by omega)]
theorem gw_sk (s : Sk h) : Sk (gwF h n) := by
  obtain ⟨g1, g2, g3, g4, g5, g6, g7, g8, g9, g10, g11⟩ := gwF_r (n := n) s.2.2
  exact ⟨fun k hk => (g4 k hk).trans (s.1 k hk), fun x b c => by rw [g1]; exact s.2.1 x b c, by have := s.2.2; omega⟩
theorem gw_rm (s : Sk h) (r : Rm h) (hw : hN h 120 = hN h 119) (h1 : hN h 119 = 4096 ∧ n = 16384 ∨ hN h 119 = 16384 ∧ n = 65536 ∨ hN h 119 = 65536 ∧ n = 300000) : Rm (gwF h n) := by
  obtain ⟨g1, g2, g3, g4, g5, g6, g7, g8, g9, g10, g11⟩ := gwF_r (n := n) s.2.2
  obtain ⟨⟨r1, r4⟩, ⟨r2, r5, r6⟩, r3⟩ := r
  have s1 : (GLs.map (fun a => if a = 119 then n else hN h a)).sum + hN h 119 = Gs h + n := by
    have := sum_upd (f := hN h) (g := fun a => if a = 119 then n else hN h a) (a := 119) (l := GLs) (by decide) (by decide) (fun b hb hne => if_neg hne)
    rw [if_pos rfl] at this
    exact this
  have s2 : Gs (gwF h n) + hN h 120 = (GLs.map (fun a => if a = 119 then n else hN h a)).sum + n := by
    have := sum_upd (f := fun a => if a = 119 then n else hN h a) (g := hN (gwF h n)) (a := 120) (l := GLs) (by decide) (by decide) (fun b hb hne => by
      by_cases c : b = 119
      · subst c; rw [g6]; rfl
      · rw [if_neg c]; exact (g5 b (gl_lt b hb) c hne).2.2)
    rw [if_neg (by decide), g7] at this
    exact this
  refine ⟨⟨by rw [g11]; omega, fun e he => ?_⟩, ⟨by rw [g10]; omega, by rw [(g5 20 (by decide) (by decide) (by decide)).2.2, (g5 21 (by decide) (by decide) (by decide)).2.2]; exact r5, by rw [(g5 30 (by decide) (by decide) (by decide)).2.2, (g5 31 (by decide) (by decide) (by decide)).2.2]; exact r6⟩, fun a ha => ?_⟩
  · obtain ⟨l1, l2⟩ := ln_gl e he
    rw [(g5 e.1 l2 (fun c => l1 (by rw [c]; decide)) (fun c => l1 (by rw [c]; decide))).2.2]; exact r4 e he
  by_cases c : a = 119
  · subst c; rw [g6]; exact ⟨by omega, show n ≤ 300000 by omega⟩
  · by_cases c2 : a = 120
    · subst c2; rw [g7]; exact ⟨by omega, show n ≤ 300000 by omega⟩
    · rw [(g5 a (gl_lt a ha) c c2).2.2]; exact r3 a ha
theorem g2_loop {H : Hp} {was : Nat} {f0 : Nat → Int32} {fl : List Nat} (s : Sk H) (hl2 : hN H 120 = n) (hn : n ≤ 300000) (hw : was < n) (hw0 : 0 < was) (hfl : ∀ x, x ∈ fl → x < was) (hq : ∀ f c gl, gl ≠ [] → Fch f c (gl ++ fl) → gl.Nodup → (∀ x, x ∈ gl → was ≤ x ∧ x < n) → (∀ x, x < was → f x = f0 x) → Q none (pI (pA H 120 f) 59 42 c)) : ∀ (t k : Nat) (f : Nat → Int32) (c : Int32) (gl : List Nat), k + 1 = was + t → k < n → (k + 1 < n → gl ≠ []) → Fch f c (gl ++ fl) → gl.Nodup → (∀ x, x ∈ gl → k < x ∧ x < n) → (∀ x, x < was → f x = f0 x) → aWP d 214 86 [(5, .int (nI k)), (4, .ref 120), (3, .ref 119), (2, .int (nI n)), (1, .int (nI was)), (0, .ref 59)] [] (pI (pA H 120 f) 59 42 c) Q := by
  intro t
  induction t with
  | zero =>
    intro k f c gl hk hkn h0 h1 h2 h3 h4
    have next := hq f c gl (h0 (by omega)) h1 h2 (fun x hx => by have := h3 x hx; omega) h4
    simp only [lv_args, z_v, z_lg, z_h, z_u, z_u1, z_c, z_ct, z_sk, sbne, lst1_d, ldel, lst2_d, ldel2, z_sw, z_rok, zi, eq_self, List.map_cons, List.map_nil, List.append_nil, List.nil_append, List.cons_append, Int32.reduceLT, Int32.reduceLE, Int32.reduceAdd, Int32.reduceSub, Int32.reduceMul, Int32.reduceToInt, Int32.reduceToNatClampNeg, Int.reduceLT, Int.reduceLE, Int.reduceNeg, true_and, and_true, or_self, or_false, false_or, false_and, and_false, true_or, or_true, if_true, if_false, ne_eq, Classical.not_not, not_true_eq_false, not_false_eq_true, true_implies, false_implies, implies_true, Nat.reduceEqDiff, Nat.reduceAdd, Nat.reduceLeDiff, Nat.reduceSub, reduceCtorEq, reduceIte, b214_86]
    simp (disch := omega) only [nI_ltN]
    refine ⟨fun _ => ?_, fun c => absurd (by omega) c⟩
    simp only [lv_args, z_v, z_lg, z_h, z_u, z_u1, z_c, z_ct, z_sk, sbne, lst1_d, ldel, lst2_d, ldel2, z_sw, z_rok, zi, eq_self, List.map_cons, List.map_nil, List.append_nil, List.nil_append, List.cons_append, Int32.reduceLT, Int32.reduceLE, Int32.reduceAdd, Int32.reduceSub, Int32.reduceMul, Int32.reduceToInt, Int32.reduceToNatClampNeg, Int.reduceLT, Int.reduceLE, Int.reduceNeg, true_and, and_true, or_self, or_false, false_or, false_and, and_false, true_or, or_true, if_true, if_false, ne_eq, Classical.not_not, not_true_eq_false, not_false_eq_true, true_implies, false_implies, implies_true, Nat.reduceEqDiff, Nat.reduceAdd, Nat.reduceLeDiff, Nat.reduceSub, reduceCtorEq, reduceIte, b214_115]
    exact next
  | succ t ih =>
    intro k f c gl hk hkn h0 h1 h2 h3 h4
    obtain ⟨k', rfl⟩ : ∃ k', k = k' + 1 := ⟨k - 1, by omega⟩
    have hnm : k' + 1 ∉ gl ++ fl := fun e => by
      rcases List.mem_append.mp e with e | e
      · have := (h3 _ e).1; omega
      · have := hfl _ e; omega
    have next := ih k' (upd f (k' + 1) c) (nI (k' + 1)) ((k' + 1) :: gl) (by omega) (by omega) (fun _ => List.cons_ne_nil _ _) (fch_add hnm (by omega) h1) (List.nodup_cons.mpr ⟨fun e => hnm (List.mem_append.mpr (Or.inl e)), h2⟩) (fun x hx => by
      rcases List.mem_cons.mp hx with rfl | hx
      · omega
      · have := h3 x hx; omega) (fun x hx => by
        have : upd f (k' + 1) c x = f x := if_neg (by omega)
        rw [this]; exact h4 x hx)
    have hcl : pI (pA (pI (pA H 120 f) 59 42 c) 120 (upd f (k' + 1) c)) 59 42 (nI (k' + 1)) = pI (pA H 120 (upd f (k' + 1) c)) 59 42 (nI (k' + 1)) := by
      show pI (pI (pA (pA H 120 f) 120 (upd f (k' + 1) c)) 59 42 c) 59 42 (nI (k' + 1)) = _
      rw [pA_pA, pI_pI]
    rw [← hcl] at next
    simp only [lv_args, z_v, z_lg, z_h, z_u, z_u1, z_c, z_ct, z_sk, sbne, lst1_d, ldel, lst2_d, ldel2, z_sw, z_rok, zi, eq_self, List.map_cons, List.map_nil, List.append_nil, List.nil_append, List.cons_append, Int32.reduceLT, Int32.reduceLE, Int32.reduceAdd, Int32.reduceSub, Int32.reduceMul, Int32.reduceToInt, Int32.reduceToNatClampNeg, Int.reduceLT, Int.reduceLE, Int.reduceNeg, true_and, and_true, or_self, or_false, false_or, false_and, and_false, true_or, or_true, if_true, if_false, ne_eq, Classical.not_not, not_true_eq_false, not_false_eq_true, true_implies, false_implies, implies_true, Nat.reduceEqDiff, Nat.reduceAdd, Nat.reduceLeDiff, Nat.reduceSub, reduceCtorEq, reduceIte, b214_86]
    simp (disch := omega) only [nI_ltN]
    refine ⟨fun c => absurd c (by omega), fun _ => ?_⟩
    simp only [lv_args, z_v, z_lg, z_h, z_u, z_u1, z_c, z_ct, z_sk, sbne, lst1_d, ldel, lst2_d, ldel2, z_sw, z_rok, zi, eq_self, List.map_cons, List.map_nil, List.append_nil, List.nil_append, List.cons_append, Int32.reduceLT, Int32.reduceLE, Int32.reduceAdd, Int32.reduceSub, Int32.reduceMul, Int32.reduceToInt, Int32.reduceToNatClampNeg, Int.reduceLT, Int.reduceLE, Int.reduceNeg, true_and, and_true, or_self, or_false, false_or, false_and, and_false, true_or, or_true, if_true, if_false, ne_eq, Classical.not_not, not_true_eq_false, not_false_eq_true, true_implies, false_implies, implies_true, Nat.reduceEqDiff, Nat.reduceAdd, Nat.reduceLeDiff, Nat.reduceSub, reduceCtorEq, reduceIte, b214_92, skM s, srM s, hl2]
    simp (disch := omega) only [nI_ti, nI_cl, le0N, ltNN, true_and]
    refine ⟨by omega, ?_⟩
    try simp only [lv_args, z_v, z_lg, z_h, z_u, z_u1, z_c, z_ct, z_sk, sbne, lst1_d, ldel, lst2_d, ldel2, z_sw, z_rok, zi, eq_self, List.map_cons, List.map_nil, List.append_nil, List.nil_append, List.cons_append, Int32.reduceLT, Int32.reduceLE, Int32.reduceAdd, Int32.reduceSub, Int32.reduceMul, Int32.reduceToInt, Int32.reduceToNatClampNeg, Int.reduceLT, Int.reduceLE, Int.reduceNeg, true_and, and_true, or_self, or_false, false_or, false_and, and_false, true_or, or_true, if_true, if_false, ne_eq, Classical.not_not, not_true_eq_false, not_false_eq_true, true_implies, false_implies, implies_true, Nat.reduceEqDiff, Nat.reduceAdd, Nat.reduceLeDiff, Nat.reduceSub, reduceCtorEq, reduceIte, b214_92, dn_1, nI_m1]
    exact next
theorem rt_119 : ∀ e, e ∈ RTl → e.2 = 119 → e.1 = (59, 40) := by decide +kernel
theorem rt_120 : ∀ e, e ∈ RTl → e.2 = 120 → e.1 = (59, 41) := by decide +kernel
theorem g1_loop (s : Sk h) (vy : Vy h) (rm : Rm h) (hw : hN h 120 = hN h 119) (hwn : hN h 119 < n) (hn3 : n ≤ 300000) (hq : aWP d 214 81 [(5, .int (nI (hN h 119))), (4, .ref 120), (3, .ref 119), (2, .int (nI n)), (1, .int (nI (hN h 119))), (0, .ref 59)] [] (gwF h n) Q) : ∀ (m j : Nat), j + m = hN h 119 → aWP d 214 35 [(5, .int (nI j)), (4, .ref (hn h + 1)), (3, .ref (hn h)), (2, .int (nI n)), (1, .int (nI (hN h 119))), (0, .ref 59)] [] (gwH h n j) Q := by
  have h130 := s.2.2
  have hsb := rm_sb rm
  have hsb2 : hn h + 1 < SB := by have := rm_fin rm; rw [sb_v]; omega
  have ne1 : (119 : Nat) ≠ hn h := by omega
  have ne2 : (120 : Nat) ≠ hn h := by omega
  have ne3 : (119 : Nat) ≠ hn h + 1 := by omega
  have ne4 : (120 : Nat) ≠ hn h + 1 := by omega
  have ne5 : hn h ≠ hn h + 1 := by omega
  have n59a : (59 : Nat) ≠ hn h + 1 := by omega
  have n59b : (59 : Nat) ≠ hn h := by omega
  have kG : ∀ j, hK (gwH h n j) 59 = 12 := fun j => (up1_ne n59a).trans ((up1_ne n59b).trans (s.1 59 (by decide)))
  have k9 : ∀ j, hK (gwH h n j) 119 = 15 := fun j => (up1_ne ne3).trans ((up1_ne ne1).trans (s.1 119 (by decide)))
  have k0 : ∀ j, hK (gwH h n j) 120 = 14 := fun j => (up1_ne ne4).trans ((up1_ne ne2).trans (s.1 120 (by decide)))
  have k1 : ∀ j, hK (gwH h n j) (hn h) = 15 := fun j => (up1_ne ne5).trans up1_eq
  have k2 : ∀ j, hK (gwH h n j) (hn h + 1) = 14 := fun j => up1_eq
  have r40 : ∀ j, hR (gwH h n j) 59 40 = some 119 := fun j => s.2.1 59 40 rfl
  have r41 : ∀ j, hR (gwH h n j) 59 41 = some 120 := fun j => s.2.1 59 41 rfl
  have n9 : ∀ j, hN (gwH h n j) 119 = hN h 119 := fun j => (up1_ne ne3).trans (up1_ne ne1)
  have n0 : ∀ j, hN (gwH h n j) 120 = hN h 119 := fun j => ((up1_ne ne4).trans (up1_ne ne2)).trans hw
  have n1 : ∀ j, hN (gwH h n j) (hn h) = n := fun j => (up1_ne ne5).trans up1_eq
  have n2 : ∀ j, hN (gwH h n j) (hn h + 1) = n := fun j => up1_eq
  have b9 : ∀ j, hB (gwH h n j) 119 = hB h 119 := fun j => (up1_ne ne1).trans ((up1_ne ne3).trans (up1_ne ne1))
  have b1 : ∀ j, hB (gwH h n j) (hn h) = va_cpy (hB h 119) (fun _ => 0) 0 0 j := fun j => up1_eq
  have a0 : ∀ j, hA (gwH h n j) 120 = hA h 120 := fun j => (up1_ne ne4).trans ((up1_ne ne4).trans (up1_ne ne2))
  have a2 : ∀ j, hA (gwH h n j) (hn h + 1) = va_cpy (hA h 120) (fun _ => 0) 0 0 j := fun j => up1_eq
  have sne : ∀ a : Nat, a < SB → (a = SB + 100) = False := fun a ha => eq_false (by omega)
  have s119 := sne 119 (by omega)
  intro m
  induction m with
  | zero =>
    intro j hj
    have hj : j = hN h 119 := by omega
    subst hj
    have kGH := kG (hN h 119)
    have rH := r40 (hN h 119)
    have swA : swOK (gwH h n (hN h 119)) [(5, .int (nI (hN h 119))), (4, .ref (hn h + 1)), (3, .ref (hn h)), (2, .int (nI n)), (1, .int (nI (hN h 119))), (0, .ref 59)] [] 59 40 119 (hn h) := by
      refine ⟨ne1, (k9 _).trans (k1 _).symm, by rw [k9]; decide, vy_cl s vy, vy_uq s vy (by decide) rt_119, fun x hx e => ?_, fun x hx => by cases hx⟩
      simp only [List.mem_cons, List.not_mem_nil, or_false] at hx
      rcases hx with rfl | rfl | rfl | rfl | rfl | rfl
      · cases e
      · injection e with e; exact ne3 e.symm
      · injection e with e; exact ne1 e.symm
      · cases e
      · cases e
      · injection e with e; exact absurd e (by decide)
    have swB : swOK (nS (gwH h n (hN h 119)) 119 (hn h)) [(5, .int (nI (hN h 119))), (4, .ref (hn h + 1)), (3, .ref 119), (2, .int (nI n)), (1, .int (nI (hN h 119))), (0, .ref 59)] [] 59 41 120 (hn h + 1) := by
      refine ⟨ne4, (k0 (hN h 119)).trans (k2 (hN h 119)).symm, by show 13 ≤ hK (gwH h n (hN h 119)) 120; rw [k0]; decide, fun a b e => ?_, vy_uq s vy (by decide) rt_120, fun x hx e => ?_, fun x hx => by cases hx⟩
      · have e : hR h a b = some (hn h + 1) := e
        have := vy_lt s vy e
        omega
      · simp only [List.mem_cons, List.not_mem_nil, or_false] at hx
        rcases hx with rfl | rfl | rfl | rfl | rfl | rfl
        · cases e
        · injection e with e; exact ne4 e.symm
        · injection e with e; exact absurd e (by decide)
        · cases e
        · cases e
        · injection e with e; exact absurd e (by decide)
    have n59 : ∀ k : Nat, 130 ≤ k → ¬ (Value.ref 59 = Value.ref k) := fun k hk e => by
      injection e with e
      have e : (59 : Nat) = k := e
      omega
    have n119 : ¬ (Value.ref 119 = Value.ref (hn h + 1)) := fun e => by
      injection e with e
      exact ne3 e
    have n1h : ¬ (Value.ref (hn h + 1) = Value.ref (hn h)) := fun e => by
      injection e with e
      exact ne5 e.symm
    have pb := (k_putS (d := d) (L := [(5, .int (nI (hN h 119))), (4, .ref (hn h + 1)), (3, .ref 119), (2, .int (nI n)), (1, .int (nI (hN h 119))), (0, .ref 59)]) (st := []) (Q := Q) mm_214 dX13_grows_78 fl_13_95 rfl (by unfold finOK; decide +kernel) (show hR (nS (gwH h n (hN h 119)) 119 (hn h)) 59 41 = some 120 from r41 (hN h 119)) swB).mpr ⟨⟨kGH, hsb2⟩, ?_⟩
    have pa := (k_putS (d := d) (L := [(5, .int (nI (hN h 119))), (4, .ref (hn h + 1)), (3, .ref (hn h)), (2, .int (nI n)), (1, .int (nI (hN h 119))), (0, .ref 59)]) (st := []) (Q := Q) mm_214 dX13_grows_72 fl_13_92 rfl (by unfold finOK; decide +kernel) rH swA).mpr ⟨⟨kGH, hsb⟩, ?_⟩
    · generalize gwH h n (hN h 119) = H at *
      simp only [lv_args, z_v, z_lg, z_h, z_u, z_u1, z_c, z_ct, z_sk, sbne, lst1_d, ldel, lst2_d, ldel2, z_sw, z_rok, zi, eq_self, List.map_cons, List.map_nil, List.append_nil, List.nil_append, List.cons_append, Int32.reduceLT, Int32.reduceLE, Int32.reduceAdd, Int32.reduceSub, Int32.reduceMul, Int32.reduceToInt, Int32.reduceToNatClampNeg, Int.reduceLT, Int.reduceLE, Int.reduceNeg, true_and, and_true, or_self, or_false, false_or, false_and, and_false, true_or, or_true, if_true, if_false, ne_eq, Classical.not_not, not_true_eq_false, not_false_eq_true, true_implies, false_implies, implies_true, Nat.reduceEqDiff, Nat.reduceAdd, Nat.reduceLeDiff, Nat.reduceSub, reduceCtorEq, reduceIte, b214_35]
      simp (disch := omega) only [nI_leN]
      refine ⟨fun _ => ?_, fun q => absurd (Nat.le_refl _) q⟩
      simp only [lv_args, z_v, z_lg, z_h, z_u, z_u1, z_c, z_ct, z_sk, sbne, lst1_d, ldel, lst2_d, ldel2, z_sw, z_rok, zi, eq_self, List.map_cons, List.map_nil, List.append_nil, List.nil_append, List.cons_append, Int32.reduceLT, Int32.reduceLE, Int32.reduceAdd, Int32.reduceSub, Int32.reduceMul, Int32.reduceToInt, Int32.reduceToNatClampNeg, Int.reduceLT, Int.reduceLE, Int.reduceNeg, true_and, and_true, or_self, or_false, false_or, false_and, and_false, true_or, or_true, if_true, if_false, ne_eq, Classical.not_not, not_true_eq_false, not_false_eq_true, true_implies, false_implies, implies_true, Nat.reduceEqDiff, Nat.reduceAdd, Nat.reduceLeDiff, Nat.reduceSub, reduceCtorEq, reduceIte, b214_70.1, b214_70.2.1]
      exact pa
    · have rn : ([(5, Value.int (nI (hN h 119))), (4, .ref (hn h + 1)), (3, .ref (hn h)), (2, .int (nI n)), (1, .int (nI (hN h 119))), (0, .ref 59)] : ALS).map (fun x => (x.1, rnm 119 (hn h) x.2)) = [(5, .int (nI (hN h 119))), (4, .ref (hn h + 1)), (3, .ref 119), (2, .int (nI n)), (1, .int (nI (hN h 119))), (0, .ref 59)] := by
        simp only [List.map_cons, List.map_nil, rnm, if_neg (n59 _ h130), if_neg n1h, if_pos, reduceCtorEq, if_false]
      rw [rn]
      generalize nS (gwH h n (hN h 119)) 119 (hn h) = H at *
      simp only [lv_args, z_v, z_lg, z_h, z_u, z_u1, z_c, z_ct, z_sk, sbne, lst1_d, ldel, lst2_d, ldel2, z_sw, z_rok, zi, eq_self, List.map_cons, List.map_nil, List.append_nil, List.nil_append, List.cons_append, Int32.reduceLT, Int32.reduceLE, Int32.reduceAdd, Int32.reduceSub, Int32.reduceMul, Int32.reduceToInt, Int32.reduceToNatClampNeg, Int.reduceLT, Int.reduceLE, Int.reduceNeg, true_and, and_true, or_self, or_false, false_or, false_and, and_false, true_or, or_true, if_true, if_false, ne_eq, Classical.not_not, not_true_eq_false, not_false_eq_true, true_implies, false_implies, implies_true, Nat.reduceEqDiff, Nat.reduceAdd, Nat.reduceLeDiff, Nat.reduceSub, reduceCtorEq, reduceIte, b214_70.2.2.2.1, b214_70.2.2.2.2.1]
      exact pb
    · have rn : ([(5, Value.int (nI (hN h 119))), (4, .ref (hn h + 1)), (3, .ref 119), (2, .int (nI n)), (1, .int (nI (hN h 119))), (0, .ref 59)] : ALS).map (fun x => (x.1, rnm 120 (hn h + 1) x.2)) = [(5, .int (nI (hN h 119))), (4, .ref 120), (3, .ref 119), (2, .int (nI n)), (1, .int (nI (hN h 119))), (0, .ref 59)] := by
        simp only [List.map_cons, List.map_nil, rnm, if_neg (n59 (hn h + 1) (by omega)), if_neg n119, if_pos, reduceCtorEq, if_false]
      rw [rn]
      exact hq
  | succ m ih =>
    intro j hj
    have next := ih (j + 1) (by omega)
    have eS : gwH h n (j + 1) = pA (pB (gwH h n j) (hn h) (vp_updL (va_cpy (hB h 119) (fun _ => 0) 0 0 j) j (hB h 119 j))) (hn h + 1) (upd (va_cpy (hA h 120) (fun _ => 0) 0 0 j) j (hA h 120 j)) := by
      show _ = pA (pA (pB (pB (nA (nA h 15 n) 14 n) (hn h) (va_cpy (hB h 119) (fun _ => 0) 0 0 j)) (hn h) (vp_updL (va_cpy (hB h 119) (fun _ => 0) 0 0 j) j (hB h 119 j))) (hn h + 1) (va_cpy (hA h 120) (fun _ => 0) 0 0 j)) (hn h + 1) (upd (va_cpy (hA h 120) (fun _ => 0) 0 0 j) j (hA h 120 j))
      rw [pB_pB, pA_pA, cpyL_s, cpy_s]
      rfl
    rw [eS] at next
    have kG := kG j
    have k9 := k9 j
    have k0 := k0 j
    have k1 := k1 j
    have k2 := k2 j
    have r40 := r40 j
    have r41 := r41 j
    have n9 := n9 j
    have n0 := n0 j
    have n1 := n1 j
    have n2 := n2 j
    have b9 := b9 j
    have b1 := b1 j
    have a0 := a0 j
    have a2 := a2 j
    generalize gwH h n j = H at *
    simp only [lv_args, z_v, z_lg, z_h, z_u, z_u1, z_c, z_ct, z_sk, sbne, lst1_d, ldel, lst2_d, ldel2, z_sw, z_rok, zi, eq_self, List.map_cons, List.map_nil, List.append_nil, List.nil_append, List.cons_append, Int32.reduceLT, Int32.reduceLE, Int32.reduceAdd, Int32.reduceSub, Int32.reduceMul, Int32.reduceToInt, Int32.reduceToNatClampNeg, Int.reduceLT, Int.reduceLE, Int.reduceNeg, true_and, and_true, or_self, or_false, false_or, false_and, and_false, true_or, or_true, if_true, if_false, ne_eq, Classical.not_not, not_true_eq_false, not_false_eq_true, true_implies, false_implies, implies_true, Nat.reduceEqDiff, Nat.reduceAdd, Nat.reduceLeDiff, Nat.reduceSub, reduceCtorEq, reduceIte, b214_35]
    simp (disch := omega) only [nI_leN]
    refine ⟨fun c => absurd c (by omega), fun _ => ?_⟩
    simp only [lv_args, z_v, z_lg, z_h, z_u, z_u1, z_c, z_ct, z_sk, sbne, lst1_d, ldel, lst2_d, ldel2, z_sw, z_rok, zi, eq_self, List.map_cons, List.map_nil, List.append_nil, List.nil_append, List.cons_append, Int32.reduceLT, Int32.reduceLE, Int32.reduceAdd, Int32.reduceSub, Int32.reduceMul, Int32.reduceToInt, Int32.reduceToNatClampNeg, Int.reduceLT, Int.reduceLE, Int.reduceNeg, true_and, and_true, or_self, or_false, false_or, false_and, and_false, true_or, or_true, if_true, if_false, ne_eq, Classical.not_not, not_true_eq_false, not_false_eq_true, true_implies, false_implies, implies_true, Nat.reduceEqDiff, Nat.reduceAdd, Nat.reduceLeDiff, Nat.reduceSub, reduceCtorEq, reduceIte, b214_41, kG, r40, r41, k9, n9, b9, k1, n1, b1]
    simp (disch := omega) only [nI_ti, nI_cl, le0N, ltNN, true_and]
    refine ⟨by omega, by omega, ?_⟩
    try simp only [lv_args, z_v, z_lg, z_h, z_u, z_u1, z_c, z_ct, z_sk, sbne, lst1_d, ldel, lst2_d, ldel2, z_sw, z_rok, zi, eq_self, List.map_cons, List.map_nil, List.append_nil, List.nil_append, List.cons_append, Int32.reduceLT, Int32.reduceLE, Int32.reduceAdd, Int32.reduceSub, Int32.reduceMul, Int32.reduceToInt, Int32.reduceToNatClampNeg, Int.reduceLT, Int.reduceLE, Int.reduceNeg, true_and, and_true, or_self, or_false, false_or, false_and, and_false, true_or, or_true, if_true, if_false, ne_eq, Classical.not_not, not_true_eq_false, not_false_eq_true, true_implies, false_implies, implies_true, Nat.reduceEqDiff, Nat.reduceAdd, Nat.reduceLeDiff, Nat.reduceSub, reduceCtorEq, reduceIte, b214_41, kG, r41, k0, n0, a0, k2, n2, a2]
    try simp (disch := omega) only [nI_ti, nI_cl, le0N, ltNN, true_and]
    refine ⟨by omega, by omega, ?_⟩
    try simp only [lv_args, z_v, z_lg, z_h, z_u, z_u1, z_c, z_ct, z_sk, sbne, lst1_d, ldel, lst2_d, ldel2, z_sw, z_rok, zi, eq_self, List.map_cons, List.map_nil, List.append_nil, List.nil_append, List.cons_append, Int32.reduceLT, Int32.reduceLE, Int32.reduceAdd, Int32.reduceSub, Int32.reduceMul, Int32.reduceToInt, Int32.reduceToNatClampNeg, Int.reduceLT, Int.reduceLE, Int.reduceNeg, true_and, and_true, or_self, or_false, false_or, false_and, and_false, true_or, or_true, if_true, if_false, ne_eq, Classical.not_not, not_true_eq_false, not_false_eq_true, true_implies, false_implies, implies_true, Nat.reduceEqDiff, Nat.reduceAdd, Nat.reduceLeDiff, Nat.reduceSub, reduceCtorEq, reduceIte, b214_41, nI_1]
    exact next
theorem sp_grows {fl : List Nat} (s : Sk h) (vy : Vy h) (rm : Rm h) (hw : hN h 120 = hN h 119) (h1 : hN h 119 = 4096 ∧ n = 16384 ∨ hN h 119 = 16384 ∧ n = 65536 ∨ hN h 119 = 65536 ∧ n = 300000) (hf : Fch (hA h 120) (hI h 59 42) fl) (hfl : ∀ x, x ∈ fl → x < hN h 119) (hq : ∀ f c gl, gl ≠ [] → Fch f c (gl ++ fl) → gl.Nodup → (∀ x, x ∈ gl → hN h 119 ≤ x ∧ x < n) → Q none (pI (pA (gwF h n) 120 f) 59 42 c)) : aEv d 214 [.ref 59] h Q := by
  have hsb := rm_sb rm
  have hsb2 : hn h + 1 < SB := by have := rm_fin rm; rw [sb_v]; omega
  obtain ⟨g1, g2, g3, g4, g5, g6, g7, g8, g9, g10, g11⟩ := gwF_r (h := h) (n := n) s.2.2
  have z4 : (4 : Int32) * nI (hN h 119) = nI (4 * hN h 119) := (Int32.ofNat_mul 4 (hN h 119)).symm
  have z5 : (65536 : Int32) = nI 65536 := rfl
  have z3 : (300000 : Int32) = nI 300000 := rfl
  have lp2 := g2_loop (d := d) (Q := Q) (H := gwF h n) (was := hN h 119) (f0 := hA (gwF h n) 120) (fl := fl) (gw_sk s) g7 (by omega) (by omega) (by omega) hfl (fun f c gl q1 q2 q3 q4 _ => hq f c gl q1 q2 q3 q4) (n - hN h 119) (n - 1) (hA (gwF h n) 120) (hI (gwF h n) 59 42) [] (by omega) (by omega) (fun c => absurd c (by omega)) (by rw [g2]; exact fch_cg (fun x hx => g9 x (hfl x hx)) hf) List.nodup_nil (fun x hx => by cases hx) (fun _ _ => rfl)
  have eid : pI (pA (gwF h n) 120 (hA (gwF h n) 120)) 59 42 (hI (gwF h n) 59 42) = gwF h n := by
    rw [pA_id]
    generalize gwF h n = H
    show (H.1, up2 (hI H) 59 42 (hI H 59 42), H.2.2) = H
    have e2 : up2 (hI H) 59 42 (hI H 59 42) = hI H := by
      funext a b
      unfold up2
      split
      · rename_i e; rw [e.1, e.2]
      · rfl
    rw [e2]; rfl
  rw [eid] at lp2
  have e1 : nI n - 1 = nI (n - 1) := by
    obtain ⟨k, rfl⟩ : ∃ k, n = k + 1 := ⟨n - 1, by omega⟩
    exact nI_m1
  have lp1 := g1_loop (d := d) (Q := Q) (n := n) s vy rm hw (by omega) (by omega) (by
    generalize gwF h n = H at *
    simp only [lv_args, z_v, z_lg, z_h, z_u, z_u1, z_c, z_ct, z_sk, sbne, lst1_d, ldel, lst2_d, ldel2, z_sw, z_rok, zi, eq_self, List.map_cons, List.map_nil, List.append_nil, List.nil_append, List.cons_append, Int32.reduceLT, Int32.reduceLE, Int32.reduceAdd, Int32.reduceSub, Int32.reduceMul, Int32.reduceToInt, Int32.reduceToNatClampNeg, Int.reduceLT, Int.reduceLE, Int.reduceNeg, true_and, and_true, or_self, or_false, false_or, false_and, and_false, true_or, or_true, if_true, if_false, ne_eq, Classical.not_not, not_true_eq_false, not_false_eq_true, true_implies, false_implies, implies_true, Nat.reduceEqDiff, Nat.reduceAdd, Nat.reduceLeDiff, Nat.reduceSub, reduceCtorEq, reduceIte, b214_70.2.2.2.2.2.2, e1]
    exact lp2) (hN h 119) 0 (by omega)
  have e0 : gwH h n 0 = nA (nA h 15 n) 14 n := by
    have f0 : va_cpy (hB h 119) (fun _ => 0) 0 0 0 = fun _ => 0 := by funext i; exact if_neg (by omega)
    have f1 : va_cpy (hA h 120) (fun _ => 0) 0 0 0 = fun _ => 0 := by funext i; exact if_neg (by omega)
    unfold gwH
    rw [f0, f1]
    show (va_up (va_up h.1 (hn h) 15) (hn h + 1) 14, h.2.1, h.2.2.1, h.2.2.2.1, va_up (va_up (va_up (hA h) (hn h) (fun _ => 0)) (hn h + 1) (fun _ => 0)) (hn h + 1) (fun _ => 0), va_up (va_up (va_up (hB h) (hn h) (fun _ => 0)) (hn h + 1) (fun _ => 0)) (hn h) (fun _ => 0), _) = (va_up (va_up h.1 (hn h) 15) (hn h + 1) 14, h.2.1, h.2.2.1, h.2.2.2.1, va_up (va_up (hA h) (hn h) (fun _ => 0)) (hn h + 1) (fun _ => 0), va_up (va_up (hB h) (hn h) (fun _ => 0)) (hn h + 1) (fun _ => 0), _)
    have f2 : va_up (va_up (va_up (hA h) (hn h) (fun _ => 0)) (hn h + 1) (fun _ => 0)) (hn h + 1) (fun _ => 0) = va_up (va_up (hA h) (hn h) (fun _ => 0)) (hn h + 1) (fun _ => 0) := bx_uu ..
    have f3 : va_up (va_up (va_up (hB h) (hn h) (fun _ => 0)) (hn h + 1) (fun _ => 0)) (hn h) (fun _ => 0) = va_up (va_up (hB h) (hn h) (fun _ => 0)) (hn h + 1) (fun _ => 0) := by
      funext a
      unfold va_up
      by_cases c1 : a = hn h
      · subst c1
        rw [if_pos rfl, if_neg (by omega), if_pos rfl]
      · rw [if_neg c1]
    rw [f2, f3]
    rfl
  rw [e0] at lp1
  unfold aEv
  have hh : ∀ L, aWP d 214 22 L [.int (nI n)] h Q → True := fun _ _ => trivial
  have fin : aWP d 214 22 [(1, .int (nI (hN h 119))), (0, .ref 59)] [.int (nI n)] h Q := by
    have hnn : hn (nA h 15 n) = hn h + 1 := rfl
    simp only [lv_args, z_v, z_lg, z_h, z_u, z_u1, z_c, z_ct, z_sk, sbne, lst1_d, ldel, lst2_d, ldel2, z_sw, z_rok, zi, eq_self, List.map_cons, List.map_nil, List.append_nil, List.nil_append, List.cons_append, Int32.reduceLT, Int32.reduceLE, Int32.reduceAdd, Int32.reduceSub, Int32.reduceMul, Int32.reduceToInt, Int32.reduceToNatClampNeg, Int.reduceLT, Int.reduceLE, Int.reduceNeg, true_and, and_true, or_self, or_false, false_or, false_and, and_false, true_or, or_true, if_true, if_false, ne_eq, Classical.not_not, not_true_eq_false, not_false_eq_true, true_implies, false_implies, implies_true, Nat.reduceEqDiff, Nat.reduceAdd, Nat.reduceLeDiff, Nat.reduceSub, reduceCtorEq, reduceIte, b214_22, hsb, hnn]
    simp (disch := omega) only [nI_ti, nI_cl, le0N, true_and]
    refine ⟨by omega, ?_⟩
    try simp only [lv_args, z_v, z_lg, z_h, z_u, z_u1, z_c, z_ct, z_sk, sbne, lst1_d, ldel, lst2_d, ldel2, z_sw, z_rok, zi, eq_self, List.map_cons, List.map_nil, List.append_nil, List.nil_append, List.cons_append, Int32.reduceLT, Int32.reduceLE, Int32.reduceAdd, Int32.reduceSub, Int32.reduceMul, Int32.reduceToInt, Int32.reduceToNatClampNeg, Int.reduceLT, Int.reduceLE, Int.reduceNeg, true_and, and_true, or_self, or_false, false_or, false_and, and_false, true_or, or_true, if_true, if_false, ne_eq, Classical.not_not, not_true_eq_false, not_false_eq_true, true_implies, false_implies, implies_true, Nat.reduceEqDiff, Nat.reduceAdd, Nat.reduceLeDiff, Nat.reduceSub, reduceCtorEq, reduceIte, b214_22, hsb2, hnn]
    try simp (disch := omega) only [nI_ti, nI_cl, le0N, true_and]
    refine ⟨by omega, ?_⟩
    try simp only [lv_args, z_v, z_lg, z_h, z_u, z_u1, z_c, z_ct, z_sk, sbne, lst1_d, ldel, lst2_d, ldel2, z_sw, z_rok, zi, eq_self, List.map_cons, List.map_nil, List.append_nil, List.nil_append, List.cons_append, Int32.reduceLT, Int32.reduceLE, Int32.reduceAdd, Int32.reduceSub, Int32.reduceMul, Int32.reduceToInt, Int32.reduceToNatClampNeg, Int.reduceLT, Int.reduceLE, Int.reduceNeg, true_and, and_true, or_self, or_false, false_or, false_and, and_false, true_or, or_true, if_true, if_false, ne_eq, Classical.not_not, not_true_eq_false, not_false_eq_true, true_implies, false_implies, implies_true, Nat.reduceEqDiff, Nat.reduceAdd, Nat.reduceLeDiff, Nat.reduceSub, reduceCtorEq, reduceIte, b214_22]
    exact lp1
  simp only [lv_args, z_v, z_lg, z_h, z_u, z_u1, z_c, z_ct, z_sk, sbne, lst1_d, ldel, lst2_d, ldel2, z_sw, z_rok, zi, eq_self, List.map_cons, List.map_nil, List.append_nil, List.nil_append, List.cons_append, Int32.reduceLT, Int32.reduceLE, Int32.reduceAdd, Int32.reduceSub, Int32.reduceMul, Int32.reduceToInt, Int32.reduceToNatClampNeg, Int.reduceLT, Int.reduceLE, Int.reduceNeg, true_and, and_true, or_self, or_false, false_or, false_and, and_false, true_or, or_true, if_true, if_false, ne_eq, Classical.not_not, not_true_eq_false, not_false_eq_true, true_implies, false_implies, implies_true, Nat.reduceEqDiff, Nat.reduceAdd, Nat.reduceLeDiff, Nat.reduceSub, reduceCtorEq, reduceIte, b214_0, skM s, srM s, z5, Nat.reduceLeDiff]
  simp (disch := omega) only [nI_leN]
  refine ⟨fun c => ?_, fun c => ?_⟩
  · have en : nI n = nI 300000 := congrArg nI (by omega)
    rw [en] at fin
    simp only [lv_args, z_v, z_lg, z_h, z_u, z_u1, z_c, z_ct, z_sk, sbne, lst1_d, ldel, lst2_d, ldel2, z_sw, z_rok, zi, eq_self, List.map_cons, List.map_nil, List.append_nil, List.nil_append, List.cons_append, Int32.reduceLT, Int32.reduceLE, Int32.reduceAdd, Int32.reduceSub, Int32.reduceMul, Int32.reduceToInt, Int32.reduceToNatClampNeg, Int.reduceLT, Int.reduceLE, Int.reduceNeg, true_and, and_true, or_self, or_false, false_or, false_and, and_false, true_or, or_true, if_true, if_false, ne_eq, Classical.not_not, not_true_eq_false, not_false_eq_true, true_implies, false_implies, implies_true, Nat.reduceEqDiff, Nat.reduceAdd, Nat.reduceLeDiff, Nat.reduceSub, reduceCtorEq, reduceIte, b214_19, z3]
    exact fin
  · have en : nI n = nI (4 * hN h 119) := congrArg nI (by omega)
    rw [en] at fin
    simp only [lv_args, z_v, z_lg, z_h, z_u, z_u1, z_c, z_ct, z_sk, sbne, lst1_d, ldel, lst2_d, ldel2, z_sw, z_rok, zi, eq_self, List.map_cons, List.map_nil, List.append_nil, List.nil_append, List.cons_append, Int32.reduceLT, Int32.reduceLE, Int32.reduceAdd, Int32.reduceSub, Int32.reduceMul, Int32.reduceToInt, Int32.reduceToNatClampNeg, Int.reduceLT, Int.reduceLE, Int.reduceNeg, true_and, and_true, or_self, or_false, false_or, false_and, and_false, true_or, or_true, if_true, if_false, ne_eq, Classical.not_not, not_true_eq_false, not_false_eq_true, true_implies, false_implies, implies_true, Nat.reduceEqDiff, Nat.reduceAdd, Nat.reduceLeDiff, Nat.reduceSub, reduceCtorEq, reduceIte, b214_13, z4]
    exact fin
end REP
