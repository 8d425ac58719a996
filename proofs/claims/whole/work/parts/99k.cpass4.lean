/-! BUILD. What compiling keeps: one form and all -/
section CPG
variable {N : NS} {mt : List Nat} {z : CR} {g : Nat} {F : Nat → Bool → CR → CR}
/-- what a form does behind its count -/
def CGe (a b : Nat) (z z' : CR) : Prop := rSc z' = rSc z ∧ rBd z' = rBd z ∧ KI z'.2.1 ∧ Ef a b z z' ∧ (rFl z' = none → rDp z' = rDp z + 1 ∧ rDp z + 1 ≤ rDx z' ∧ rFm z ≤ rFm z' ∧ (rCd z').length ≤ (rCd z).length + 3 + 5 * (rFm z' - rFm z) ∧ (rCd z).length < (rCd z').length)
theorem s_of {z z' : CR} (h : z'.2.1 = z.2.1) : rSc z' = rSc z ∧ rBd z' = rBd z ∧ rKp z' = rKp z := ⟨congrArg (fun s => s.1) h, congrArg (fun s => s.2.1) h, congrArg (fun s => s.2.2) h⟩
theorem t_of {z z' : CR} (h : z'.2.2 = z.2.2) : rFm z' = rFm z ∧ rDp z' = rDp z ∧ rDx z' = rDx z ∧ rFl z' = rFl z := ⟨congrArg (fun s => s.1.1) h, congrArg (fun s => s.1.2.1) h, congrArg (fun s => s.1.2.2) h, congrArg (fun s => s.2) h⟩
theorem u_of {z z' : CR} (h : z'.1 = z.1) : rCd z' = rCd z ∧ rDt z' = rDt z ∧ rLm z' = rLm z ∧ rSr z' = rSr z := ⟨congrArg (fun s => s.1) h, congrArg (fun s => s.2.1) h, congrArg (fun s => s.2.2.1) h, congrArg (fun s => s.2.2.2) h⟩
theorem cd_E {o v : Int32} {dp : Nat} : (rCd (cE o v dp z)).length = (rCd z).length + 1 := by
  show (_ ++ [_]).length = _
  rw [List.length_append]; rfl
theorem dx_E {o v : Int32} {dp : Nat} : rDx (cE o v dp z) = max (rDx z) dp := rfl
theorem gb_e {la : Bool} : (cGb la z).2.1 = z.2.1 ∧ rFl (cGb la z) = rFl z ∧ rDp (cGb la z) = rDp z ∧ rFm (cGb la z) = rFm z ∧ rDx z ≤ rDx (cGb la z) ∧ (rCd z).length ≤ (rCd (cGb la z)).length ∧ (rCd (cGb la z)).length ≤ (rCd z).length + 1 := by
  unfold cGb
  split
  · exact ⟨rfl, rfl, rfl, rfl, Nat.le_max_left _ _, by rw [cd_E]; omega, by rw [cd_E]; omega⟩
  · exact ⟨rfl, rfl, rfl, rfl, Nat.le_refl _, Nat.le_refl _, Nat.le_succ _⟩
theorem cge_of {a b : Nat} {z' : CR} (h : CFe a b z z') : CGe a b z z' := by
  obtain ⟨h1, h2, h3, h4, h5⟩ := h
  refine ⟨h1, h2, h3, h4, fun hn => ?_⟩
  obtain ⟨k1, k2, k3, k4, k5⟩ := h5 hn
  exact ⟨k1, k2, by omega, by omega, k5⟩
theorem if_e (hF : CFs N g F) {la : Bool} {u v w a b : Nat} (hs : Sqn g N [u, v, w] a b) (hk : KI z.2.1) : CGe a b z (cIf F la u v w z) := by
  obtain ⟨s1, m1, t1, _, _, s2, m2, t2, _, _, s3, m3, t3, _, s4, s5⟩ := hs
  have s5 : m3 ≤ b := s5
  obtain ⟨p1, p2, p3, p4, p5⟩ := hF u m1 false z t1 hk
  obtain ⟨q1, q2, q3, q4, q5⟩ := hF v m2 la (cE 27 0 (rDp (F u false z) - 1) (F u false z)) t2 p3
  unfold cIf
  dsimp only
  generalize hz1 : F u false z = z1 at *
  generalize hz2 : F v la (cE 27 0 (rDp z1 - 1) z1) = z2 at *
  have E2 : Ef a m2 z z2 := ef_tr (ef_tr (ef_wk p4 s1 (Nat.le_refl _)) ef_E (Nat.le_of_eq p2.symm)) (ef_wk q4 s2 (Nat.le_refl _)) (Nat.le_of_eq p2.symm)
  have hz3 : ∃ z3, z3 = (if la then z2 else cE 26 0 (rDp z2) z2) ∧ z3.2.1 = z2.2.1 ∧ rFl z3 = rFl z2 ∧ rDp z3 = rDp z2 ∧ rFm z3 = rFm z2 ∧ rDx z2 ≤ rDx z3 ∧ (rCd z2).length ≤ (rCd z3).length ∧ (rCd z3).length ≤ (rCd z2).length + 1 ∧ Ef m2 m2 z2 z3 ∧ (la = false → (rCd z3).length = (rCd z2).length + 1) := by
    cases la
    · exact ⟨_, rfl, rfl, rfl, rfl, rfl, Nat.le_max_left _ _, by rw [if_neg (by decide), cd_E]; omega, by rw [if_neg (by decide), cd_E]; omega, by rw [if_neg (by decide)]; exact ef_E, fun _ => cd_E⟩
    · exact ⟨_, rfl, rfl, rfl, rfl, rfl, Nat.le_refl _, Nat.le_refl _, Nat.le_succ _, ef_rf, fun h => by cases h⟩
  obtain ⟨z3, ez3, r1, r2, r3, r4, r5, r6, r7, r8, r9⟩ := hz3
  rw [← ez3]
  have b2 : rBd z2 = rBd z := q2.trans p2
  have b3 : rBd z3 = rBd z2 := by unfold rBd; rw [r1]
  have c3 : rSc z3 = rSc z2 := by unfold rSc; rw [r1]
  have E3 : Ef a m2 z (cLd (rCd z1).length (cDp (rDp z3 - 1) z3)) := by
    refine ef_Ld (ef_tr (ef_tr E2 r8 (Nat.le_of_eq b2.symm)) ef_Dp (by omega)) (fun hn => ?_)
    have hn : rFl z3 = none := hn
    rw [r2] at hn
    have hn1 := ef_no q4 hn
    exact (p4.2 hn1).1.1.length_le
  obtain ⟨u1, u2, u3, u4, u5⟩ := hF w m3 la (cLd (rCd z1).length (cDp (rDp z3 - 1) z3)) t3 (by show KI z3.2.1; rw [r1]; exact q3)
  have u1 : rSc (F w la (cLd (rCd z1).length (cDp (rDp z3 - 1) z3))) = rSc z3 := u1
  have u2 : rBd (F w la (cLd (rCd z1).length (cDp (rDp z3 - 1) z3))) = rBd z3 := u2
  have E4 : Ef a b z (F w la (cLd (rCd z1).length (cDp (rDp z3 - 1) z3))) := ef_tr E3 (ef_wk u4 s3 s5) (by show _ ≤ rBd z3; omega)
  have key : rFl (F w la (cLd (rCd z1).length (cDp (rDp z3 - 1) z3))) = none → rDp (F w la (cLd (rCd z1).length (cDp (rDp z3 - 1) z3))) = rDp z + 1 ∧ rDp z + 1 ≤ rDx (F w la (cLd (rCd z1).length (cDp (rDp z3 - 1) z3))) ∧ rFm z ≤ rFm (F w la (cLd (rCd z1).length (cDp (rDp z3 - 1) z3))) ∧ (rCd (F w la (cLd (rCd z1).length (cDp (rDp z3 - 1) z3)))).length ≤ (rCd z).length + 3 + 5 * (rFm (F w la (cLd (rCd z1).length (cDp (rDp z3 - 1) z3))) - rFm z) ∧ (rCd z).length < (rCd (F w la (cLd (rCd z1).length (cDp (rDp z3 - 1) z3)))).length ∧ (rCd z).length ≤ (rCd z2).length := fun hn => by
    have hn4 := ef_no u4 hn
    have hn3 : rFl z3 = none := hn4
    rw [r2] at hn3
    have hn1 := ef_no q4 hn3
    obtain ⟨x1, x2, x3, x4, x5⟩ := p5 hn1
    obtain ⟨y1, y2, y3, y4, y5⟩ := q5 hn3
    obtain ⟨w1, w2, w3, w4, w5⟩ := u5 hn
    have d1 : rDp (cE 27 0 (rDp z1 - 1) z1) = rDp z1 - 1 := rfl
    have d2 : rFm (cE 27 0 (rDp z1 - 1) z1) = rFm z1 := rfl
    have d3 : rDp (cLd (rCd z1).length (cDp (rDp z3 - 1) z3)) = rDp z3 - 1 := rfl
    have d4 : rFm (cLd (rCd z1).length (cDp (rDp z3 - 1) z3)) = rFm z3 := rfl
    have d5 : (rCd (cLd (rCd z1).length (cDp (rDp z3 - 1) z3))).length = (rCd z3).length := cd_Ld
    rw [d1] at y1 y2
    rw [d2] at y3 y4
    rw [cd_E] at y4 y5
    rw [d3] at w1 w2
    rw [d4] at w3 w4
    rw [d5] at w4 w5
    refine ⟨by omega, by omega, by omega, by omega, by omega, by omega⟩
  cases la
  · simp only [Bool.false_eq_true, if_false]
    refine ⟨u1.trans (c3.trans (q1.trans p1)), u2.trans (b3.trans b2), u3, ef_Ld E4 (fun hn => (key hn).2.2.2.2.2), fun hn => ?_⟩
    obtain ⟨k1, k2, k3, k4, k5, k6⟩ := key hn
    rw [cd_Ld]
    exact ⟨k1, k2, k3, k4, k5⟩
  · simp only [if_true]
    exact ⟨u1.trans (c3.trans (q1.trans p1)), u2.trans (b3.trans b2), u3, E4, fun hn => ⟨(key hn).1, (key hn).2.1, (key hn).2.2.1, (key hn).2.2.2.1, (key hn).2.2.2.2.1⟩⟩
theorem le_e {la : Bool} {ar st k a : Nat} : (cLe la ar st k z).2.1 = (cUn ar z).2.1 ∧ Ef a a z (cLe la ar st k z) ∧ rDp (cLe la ar st k z) = st + 1 ∧ rFm (cLe la ar st k z) = rFm z ∧ (rCd (cLe la ar st k z)).length ≤ (rCd z).length + 1 ∧ (rCd z).length ≤ (rCd (cLe la ar st k z)).length ∧ rDx z ≤ rDx (cLe la ar st k z) ∧ rFl (cLe la ar st k z) = rFl z := by
  unfold cLe
  cases la
  · rw [if_neg (by decide)]
    refine ⟨rfl, ef_same rfl (List.prefix_append _ _) rfl (fun _ _ => rfl) (Nat.le_max_left _ _) rfl, rfl, rfl, ?_, ?_, Nat.le_max_left _ _, rfl⟩
    · show (rCd (cE 31 (nI k) (rDp z) (cUn ar z))).length ≤ _
      rw [cd_E]; exact Nat.le_refl _
    · show _ ≤ (rCd (cE 31 (nI k) (rDp z) (cUn ar z))).length
      rw [cd_E]; exact Nat.le_succ _
  · rw [if_pos rfl]
    exact ⟨rfl, ef_same rfl (List.prefix_refl _) rfl (fun _ _ => rfl) (Nat.le_refl _) rfl, rfl, rfl, Nat.le_succ _, Nat.le_refl _, Nat.le_refl _, rfl⟩
theorem bnd_ef {a k : Nat} {z' : CR} (h : Bdg k z z') (h1 : z'.1 = z.1) (h2 : z'.2.2 = z.2.2) : Ef a a z z' := by
  obtain ⟨t, a1, a2, a3, a4, a5⟩ := h
  refine ef_same ?_ ?_ ?_ ?_ ?_ ?_
  · exact (t_of h2).2.2.2
  · rw [(u_of h1).1]; exact List.prefix_refl _
  · rw [h1]
  · intro l _; exact congrArg (fun s => s.2 l) a4
  · rw [(t_of h2).2.2.1]; exact Nat.le_refl _
  · exact (t_of h2).1
theorem bnd_b {k : Nat} {z' : CR} (h : Bdg k z z') : rBd z' = rBd z ∧ KI z'.2.1 := by
  obtain ⟨t, a1, a2, a3, a4, a5⟩ := h
  exact ⟨congrArg Prod.fst a4, a5⟩
/-- a body with bindings: they go out again -/
theorem lb_e (hF : CFs N g F) {la : Bool} {bo : List Nat} {a b k st : Nat} {z1 z2 : CR} (hbo : bo ≠ []) (hs : Sqn g N bo a b) (hB : Bdg k z1 z2) : rSc (cLe la (rSc z1).length st k (cBo F la bo z2)) = rSc z1 ∧ rBd (cLe la (rSc z1).length st k (cBo F la bo z2)) = rBd z1 ∧ KI (cLe la (rSc z1).length st k (cBo F la bo z2)).2.1 ∧ Ef a b z2 (cLe la (rSc z1).length st k (cBo F la bo z2)) ∧ (rFl (cLe la (rSc z1).length st k (cBo F la bo z2)) = none → rDp (cLe la (rSc z1).length st k (cBo F la bo z2)) = st + 1 ∧ rDp z2 + 1 ≤ rDx (cLe la (rSc z1).length st k (cBo F la bo z2)) ∧ rFm z2 ≤ rFm (cLe la (rSc z1).length st k (cBo F la bo z2)) ∧ (rCd (cLe la (rSc z1).length st k (cBo F la bo z2))).length + 1 ≤ (rCd z2).length + 5 * (rFm (cLe la (rSc z1).length st k (cBo F la bo z2)) - rFm z2) ∧ (rCd z2).length < (rCd (cLe la (rSc z1).length st k (cBo F la bo z2))).length) := by
  obtain ⟨b1, b2⟩ := bnd_b hB
  obtain ⟨p1, p2, p3, p4, p5⟩ := bo_e hF (la := la) bo a b z2 hbo hs b2
  obtain ⟨l1, l2, l3, l4, l5, l6, l7, l8⟩ := le_e (z := cBo F la bo z2) (la := la) (ar := (rSc z1).length) (st := st) (k := k) (a := b)
  obtain ⟨u1, u2⟩ := un_k hB p1 p2 p3
  refine ⟨?_, ?_, ?_, ef_tr p4 l2 (Nat.le_of_eq p2.symm), fun hn => ?_⟩
  · exact (s_of l1).1.trans u1
  · exact (s_of l1).2.1.trans (p2.trans b1)
  · rw [l1]; exact u2
  · rw [l8] at hn
    obtain ⟨k1, k2, k3, k4, k5⟩ := p5 hn
    rw [l4]
    refine ⟨l3, by omega, by omega, by omega, by omega⟩
theorem let_e (hF : CFs N g F) {la : Bool} {ps bo : List Nat} {a m b : Nat} (hs1 : Sqn g N (vls N ps) a m) (hs2 : Sqn g N bo m b) (hbo : bo ≠ []) (hk : KI z.2.1) : CGe a b z (cLet N F la ps bo z) := by
  obtain ⟨p1, p2, p3, p4, p5⟩ := lt_e hF ps [] a m z hs1 hk
  obtain ⟨B1, B2, B3⟩ := bp_e (N := N) ps (rDp z) (cLt N F ps [] z) p3
  have L := lb_e hF (la := la) (st := rDp z) hbo hs2 B1
  have eB := bnd_ef (a := m) B1 B2 B3
  rw [p1] at L
  obtain ⟨l1, l2, l3, l4, l5⟩ := L
  have hb1 := (bnd_b B1).1
  refine ⟨l1, l2.trans p2, l3, ef_tr (ef_tr p4 eB (Nat.le_of_eq p2.symm)) l4 (by omega), fun hn => ?_⟩
  have hn2 := ef_no l4 hn
  have hn1 := ef_no eB hn2
  obtain ⟨k1, k2, k3, k4, k5⟩ := l5 hn
  obtain ⟨q1, q2, q3, q4, q5⟩ := p5 hn1
  have c1 : rDp (cBp N ps (rDp z) (cLt N F ps [] z)) = rDp (cLt N F ps [] z) := (t_of B3).2.1
  have c2 : rFm (cBp N ps (rDp z) (cLt N F ps [] z)) = rFm (cLt N F ps [] z) := (t_of B3).1
  have c3 : rCd (cBp N ps (rDp z) (cLt N F ps [] z)) = rCd (cLt N F ps [] z) := (u_of B2).1
  rw [c1] at k2
  rw [c2] at k3 k4
  rw [c3] at k4 k5
  unfold cLet
  refine ⟨k1, by omega, by omega, by omega, by omega⟩
theorem lrc_e (hF : CFs N g F) {la : Bool} {ps bo : List Nat} {a m b : Nat} (hs1 : Sqn g N (vls N ps) a m) (hs2 : Sqn g N bo m b) (hbo : bo ≠ []) (hk : KI z.2.1) : CGe a b z (cLrc N F la ps bo z) := by
  obtain ⟨B1, B2, B3⟩ := bp_e (N := N) ps (rDp z) z hk
  obtain ⟨p1, p2, p3, p4, p5⟩ := lr_e hF ps [] (rDp z) a m (cE 22 (nI ps.length) (rDp z + ps.length) (cBp N ps (rDp z) z)) hs1 (bnd_b B1).2
  have hb1 := (bnd_b B1).1
  have eB := bnd_ef (a := a) B1 B2 B3
  obtain ⟨t, t1, t2, t3, t4, t5⟩ := B1
  -- the bindings stay in the scope while the values are worked
  obtain ⟨q1, q2, q3, q4, q5⟩ := bo_e hF (la := la) bo m b _ hbo hs2 p3
  obtain ⟨l1, l2, l3, l4, l5, l6, l7, l8⟩ := le_e (z := cBo F la bo (cLr N F ps [] (rDp z) (cE 22 (nI ps.length) (rDp z + ps.length) (cBp N ps (rDp z) z)))) (la := la) (ar := (rSc z).length) (st := rDp z) (k := ps.length) (a := b)
  have u := un_k (z := z) (z1 := cBp N ps (rDp z) z) ⟨t, t1, t2, t3, t4, t5⟩ (q1.trans p1) (q2.trans p2) q3
  have b2 : rBd (cLr N F ps [] (rDp z) (cE 22 (nI ps.length) (rDp z + ps.length) (cBp N ps (rDp z) z))) = rBd z := p2.trans hb1
  have E1 := ef_tr (ef_tr (ef_tr eB (ef_E (o := 22) (v := nI ps.length) (dp := rDp z + ps.length)) (Nat.le_of_eq hb1.symm)) p4 (Nat.le_of_eq hb1.symm)) q4 (by omega)
  unfold cLrc
  have b3 : rBd (cBo F la bo (cLr N F ps [] (rDp z) (cE 22 (nI ps.length) (rDp z + ps.length) (cBp N ps (rDp z) z)))) = rBd z := q2.trans b2
  refine ⟨?_, ?_, ?_, ef_tr E1 l2 (by omega), fun hn => ?_⟩
  · exact (s_of l1).1.trans u.1
  · exact (s_of l1).2.1.trans b3
  · rw [l1]; exact u.2
  · rw [l8] at hn
    have hn2 := ef_no q4 hn
    obtain ⟨k1, k2, k3, k4, k5⟩ := q5 hn
    obtain ⟨r1, r2, r3, r4, r5⟩ := p5 hn2
    have d1 : rDp (cE 22 (nI ps.length) (rDp z + ps.length) (cBp N ps (rDp z) z)) = rDp z + ps.length := rfl
    have d2 : rFm (cE 22 (nI ps.length) (rDp z + ps.length) (cBp N ps (rDp z) z)) = rFm z := by
      exact (t_of B3).1
    have d3 : (rCd (cE 22 (nI ps.length) (rDp z + ps.length) (cBp N ps (rDp z) z))).length = (rCd z).length + 1 := by
      rw [cd_E, (u_of B2).1]
    rw [d1] at r1
    rw [d2] at r2 r3
    rw [d3] at r3 r4
    rw [l4]
    refine ⟨l3, by omega, by omega, by omega, by omega⟩
end CPG
section CPH
variable {N : NS} {mt : List Nat} {z : CR} {g : Nat} {F : Nat → Bool → CR → CR}
theorem vr_e {j o dp a : Nat} (hk : KI z.2.1) : rSc (cVr N j o dp z) = rSc z ∧ rBd (cVr N j o dp z) = rBd z ∧ KI (cVr N j o dp z).2.1 ∧ Ef a a z (cVr N j o dp z) ∧ rDp (cVr N j o dp z) = dp ∧ dp ≤ rDx (cVr N j o dp z) ∧ rFm (cVr N j o dp z) = rFm z ∧ (rCd (cVr N j o dp z)).length = (rCd z).length + 1 ∧ rFl (cVr N j o dp z) = rFl z := by
  unfold cVr
  split
  · exact ⟨rfl, rfl, hk, ef_E, rfl, Nat.le_max_right _ _, rfl, cd_E, rfl⟩
  · rename_i b hb
    split
    · exact ⟨rfl, rfl, hk, ef_E, rfl, Nat.le_max_right _ _, rfl, cd_E, rfl⟩
    · exact ⟨rfl, rfl, ki_kp hk (fd_lt hb).1, ef_tr ef_Kp ef_E (Nat.le_refl _), rfl, Nat.le_max_right _ _, rfl, cd_E, rfl⟩
theorem cNm_e {n a : Nat} (hk : KI z.2.1) : rSc (cNm N n z) = rSc z ∧ rBd (cNm N n z) = rBd z ∧ KI (cNm N n z).2.1 ∧ Ef a a z (cNm N n z) ∧ (rFl (cNm N n z) = none → rDp (cNm N n z) = rDp z + 1 ∧ rDp z + 1 ≤ rDx (cNm N n z) ∧ rFm (cNm N n z) = rFm z ∧ (rCd (cNm N n z)).length = (rCd z).length + 1) := by
  unfold cNm
  split
  · exact ⟨rfl, rfl, hk, ef_Tl, fun h => absurd h tl_fl⟩
  · split
    · exact ⟨rfl, rfl, hk, ef_E, fun _ => ⟨rfl, Nat.le_max_right _ _, rfl, cd_E⟩⟩
    · split
      · obtain ⟨h1, h2, h3, h4, h5, h6, h7, h8, h9⟩ := vr_e (N := N) (j := nCn N n) (o := 16) (dp := rDp z + 1) (a := a) hk
        exact ⟨h1, h2, h3, h4, fun _ => ⟨h5, h6, h7, h8⟩⟩
      · exact ⟨rfl, rfl, hk, ef_Tl, fun h => absurd h tl_fl⟩
theorem call_e (hF : CFs N g F) {la : Bool} {ps : List Nat} {a b : Nat} (hs : Sqn g N ps a b) (hp : ps ≠ []) (hk : KI z.2.1) : CGe a b z (cCl F la ps z) := by
  obtain ⟨p1, p2, p3, p4, p5⟩ := cl_e hF ps a b z hs hk
  unfold cCl
  dsimp only
  refine ⟨p1, p2, p3, ef_tr p4 ef_E (Nat.le_of_eq p2.symm), fun hn => ?_⟩
  obtain ⟨k1, k2, k3, k4, k5⟩ := p5 hn
  have : 0 < ps.length := List.length_pos_iff.mpr hp
  rw [cd_E, dx_E]
  refine ⟨?_, ?_, k2, ?_, by omega⟩
  · show rDp _ + 1 - ps.length = _
    omega
  · omega
  · show _ ≤ _ + 5 * (rFm (List.foldl (fun z a => F a false z) z ps) - rFm z)
    omega
theorem un2_e (hF : CFs N g F) {la : Bool} {o : Int32} {ps : List Nat} {a b : Nat} (hs : Sqn g N ps a b) (hp : ps ≠ []) (hk : KI z.2.1) : CGe a b z (cUn2 F la o ps z) := by
  obtain ⟨p1, p2, p3, p4, p5⟩ := ut_e hF (la := la) (o := o) (z0 := z) (c := a) ps [] a b z hp hs hk rfl (fun _ => ⟨oke_rf, fun x hx => by cases hx⟩)
  unfold cUn2
  obtain ⟨g1, g2, g3, g4, g5, g6, g7⟩ := gb_e (z := cUt F la o ps [] z) (la := la && decide (1 < ps.length))
  refine ⟨(s_of g1).1.trans p1, (s_of g1).2.1.trans p2, by rw [g1]; exact p3, ef_tr ⟨p4, fun h => (p5 h).1⟩ (ef_Gb (a := b)) (Nat.le_of_eq p2.symm), fun hn => ?_⟩
  rw [g2] at hn
  obtain ⟨k0, k1, k2, k3, k4, k5⟩ := p5 hn
  rw [g3, g4]
  refine ⟨k1, by omega, by omega, by omega, by omega⟩
theorem st_e (hF : CFs N g F) {la : Bool} {s v m a : Nat} (ht : Trb g N v m) (ha : a ≤ v) (hk : KI z.2.1) : CGe a m z (cSt N F la s v z) := by
  obtain ⟨z0, e0, h1, h2, h3, h4, h5⟩ : ∃ z0, z0 = (if nCn N s < 30 then cTl 5 (nQ N s) z else if cMn N (nCn N s) z then z else cTl 4 (nQ N s) z) ∧ z0.2.1 = z.2.1 ∧ Ef a a z z0 ∧ rDp z0 = rDp z ∧ rFm z0 = rFm z ∧ rCd z0 = rCd z := by
    refine ⟨_, rfl, ?_⟩
    split
    · exact ⟨rfl, ef_Tl, rfl, rfl, rfl⟩
    · split
      · exact ⟨rfl, ef_rf, rfl, rfl, rfl⟩
      · exact ⟨rfl, ef_Tl, rfl, rfl, rfl⟩
  unfold cSt
  dsimp only
  rw [← e0]
  obtain ⟨p1, p2, p3, p4, p5⟩ := hF v m false z0 ht (by rw [h1]; exact hk)
  have E1 := ef_tr h2 (ef_wk p4 ha (Nat.le_refl _)) (Nat.le_of_eq (s_of h1).2.1.symm)
  have b1 : rBd (F v false z0) = rBd z := p2.trans (s_of h1).2.1
  obtain ⟨z2, e2, q1, q2, q3, q4, q5⟩ : ∃ z2, z2 = (if rFl (F v false z0) = none then cVr N (nCn N s) 19 (rDp (F v false z0)) (F v false z0) else F v false z0) ∧ rSc z2 = rSc (F v false z0) ∧ rBd z2 = rBd (F v false z0) ∧ KI z2.2.1 ∧ Ef m m (F v false z0) z2 ∧ (rFl z2 = none → rDp z2 = rDp (F v false z0) ∧ rDp (F v false z0) ≤ rDx z2 ∧ rFm z2 = rFm (F v false z0) ∧ (rCd z2).length = (rCd (F v false z0)).length + 1) := by
    refine ⟨_, rfl, ?_⟩
    split
    · obtain ⟨w1, w2, w3, w4, w5, w6, w7, w8, w9⟩ := vr_e (N := N) (j := nCn N s) (o := 19) (dp := rDp (F v false z0)) (a := m) p3
      exact ⟨w1, w2, w3, w4, fun _ => ⟨w5, w6, w7, w8⟩⟩
    · rename_i c
      exact ⟨rfl, rfl, p3, ef_rf, fun h => absurd h c⟩
  rw [← e2]
  obtain ⟨g1, g2, g3, g4, g5, g6, g7⟩ := gb_e (z := z2) (la := la)
  refine ⟨(s_of g1).1.trans (q1.trans (p1.trans (s_of h1).1)), (s_of g1).2.1.trans (q2.trans b1), by rw [g1]; exact q3, ef_tr (ef_tr E1 q4 (by omega)) (ef_Gb (a := m)) (by omega), fun hn => ?_⟩
  rw [g2] at hn
  obtain ⟨k1, k2, k3, k4⟩ := q5 hn
  obtain ⟨x1, x2, x3, x4, x5⟩ := p5 (ef_no q4 hn)
  rw [h3] at x1 x2
  rw [h4] at x3 x4
  rw [h5] at x4 x5
  rw [g3, g4]
  refine ⟨by omega, by omega, by omega, by omega, by omega⟩
theorem df_e (hF : CFs N g F) {s v m a : Nat} (ht : Trb g N v m) (ha : a ≤ v) (hk : KI z.2.1) : CGe a m z (cDf N F s v z) := by
  obtain ⟨z0, e0, h1, h2, h3, h4, h5⟩ : ∃ z0, z0 = (if nCn N s < 30 then cTl 5 (nQ N s) z else if 100 ≤ (gdf N).idxOf (nCn N s) ∧ nCn N s ∈ gdf N then cTl 6 (nQ N s) z else z) ∧ z0.2.1 = z.2.1 ∧ Ef a a z z0 ∧ rDp z0 = rDp z ∧ rFm z0 = rFm z ∧ rCd z0 = rCd z := by
    refine ⟨_, rfl, ?_⟩
    split
    · exact ⟨rfl, ef_Tl, rfl, rfl, rfl⟩
    · split
      · exact ⟨rfl, ef_Tl, rfl, rfl, rfl⟩
      · exact ⟨rfl, ef_rf, rfl, rfl, rfl⟩
  unfold cDf
  dsimp only
  rw [← e0]
  obtain ⟨p1, p2, p3, p4, p5⟩ := hF v m false z0 ht (by rw [h1]; exact hk)
  have E1 := ef_tr h2 (ef_wk p4 ha (Nat.le_refl _)) (Nat.le_of_eq (s_of h1).2.1.symm)
  have b1 : rBd (F v false z0) = rBd z := p2.trans (s_of h1).2.1
  refine ⟨p1.trans (s_of h1).1, b1, p3, ef_tr E1 ef_E (by omega), fun hn => ?_⟩
  obtain ⟨x1, x2, x3, x4, x5⟩ := p5 hn
  rw [h3] at x1 x2
  rw [h4] at x3 x4
  rw [h5] at x4 x5
  rw [cd_E, dx_E]
  refine ⟨x1, by omega, ?_, ?_, by omega⟩
  · show _ ≤ rFm (F v false z0); omega
  · show _ ≤ _ + 5 * (rFm (F v false z0) - _); omega
theorem al_la (hF : CFs N g F) {la : Bool} {n : Nat} {ns bo : List Nat} {a b : Nat} (hs : Sqn g N bo a b) (hbo : bo ≠ []) (hk : KI z.2.1) : CGe a b z (cLa N F la n ns bo z) := by
  unfold cLa
  by_cases c : 120 ≤ (rLm z).length
  · rw [if_pos c]
    exact ⟨rfl, rfl, hk, ef_wk (ef_Tl (a := a)) (Nat.le_refl _) (seq_le _ _ _ hs), fun h => absurd h tl_fl⟩
  rw [if_neg c]
  dsimp only
  generalize hz1 : cE 26 0 (rDp z + 1) (cE 25 (nI (rLm z).length) (rDp z + 1) (cAl ns.length z)) = z1
  have s1 : z1.2.1 = z.2.1 := by rw [← hz1]; rfl
  have d1 : rDp z1 = rDp z + 1 := by rw [← hz1]; rfl
  have m1 : rFm z1 = rFm z := by rw [← hz1]; rfl
  have f1 : rFl z1 = rFl z := by rw [← hz1]; rfl
  have x1 : rDp z + 1 ≤ rDx z1 := by rw [← hz1, dx_E]; omega
  have c1 : (rCd z1).length = (rCd z).length + 2 := by
    rw [← hz1, cd_E, cd_E]; rfl
  have l1 : rLm z1 = rLm z ++ [(0, ns.length, 0, 0, [])] := by rw [← hz1]; rfl
  have E1 : Ef a a z z1 := by
    rw [← hz1]
    refine ⟨fun _ => rfl, fun _ => ⟨⟨?_, List.prefix_refl _, List.prefix_append _ _, List.prefix_refl _⟩, fun _ _ => List.prefix_refl _, ?_, Nat.le_refl _, by show rFm z + a ≤ _; omega, fun h => h, Nat.le_refl _⟩⟩
    · show rCd z <+: (rCd z ++ [_]) ++ [_]
      rw [List.append_assoc]
      exact List.prefix_append _ _
    · show rDx z ≤ max (max (rDx z) _) _
      omega
  have hke : KI (cEn z1).2.1 := by
    have : KI z1.2.1 := by rw [s1]; exact hk
    exact ki_en this
  obtain ⟨B, Eb, b1, b2⟩ := bn_e (N := N) (a := a) ns [] 0 (cEn z1) hke
  have bb := bnd_b B
  obtain ⟨p1, p2, p3, p4, p5⟩ := bo_e hF (la := true) bo a b (cDD ns.length ns.length (cBn N ns [] 0 (cEn z1))) hbo hs bb.2
  generalize hz2 : cBo F true bo (cDD ns.length ns.length (cBn N ns [] 0 (cEn z1))) = z2 at *
  have sce : rSc (cEn z1) = rSc z := by
    show rSc z1 = _
    exact (s_of s1).1
  have bde : rBd (cEn z1) = rBd z + 1 := by
    show rBd z1 + 1 = _
    rw [(s_of s1).2.1]
  have hbd2 : rBd z2 = rBd z + 1 := (p2.trans bb.1).trans bde
  obtain ⟨t, t1, t2, t3, t4, t5⟩ := B
  have hsc2 : rSc z2 = rSc z ++ t := by rw [← sce]; exact p1.trans t1
  have fin : KI (cUn (rSc z).length (cLv (cEl (rLm z).length ((rCd z).length + 2) z2))).2.1 := by
    show KI ((rSc z2).take (rSc z).length, rBd z2 - 1, rKp z2)
    refine ki_lu (s := z2.2.1) p3 (by show 1 ≤ rBd z2; omega) (fun i hi1 hi2 => ?_) (fun i hi1 hi2 => ?_)
    · show ((rSc z2).getD i (0, 0, 0)).2.2 + 1 ≤ rBd z2
      rw [hsc2, gd_app1 hi1, hbd2]
      exact Nat.succ_le_succ (hk.2.1 i hi1)
    · show ((rSc z2).getD i (0, 0, 0)).2.2 = rBd z2
      have hi2 : i < (rSc z2).length := hi2
      rw [hsc2] at hi2 ⊢
      rw [gd_app3 hi1, hbd2]
      rw [List.length_append] at hi2
      have hj : i - (rSc z).length < t.length := by omega
      rw [List.getD_eq_getElem?_getD, List.getElem?_eq_getElem hj]
      exact (t3 _ (List.getElem_mem hj)).trans bde
  obtain ⟨g1, g2, g3, g4, g5, g6, g7⟩ := gb_e (z := cLd ((rCd z).length + 1) (cDD (rDp z1) (rDx z1) (cUn (rSc z).length (cLv (cEl (rLm z).length ((rCd z).length + 2) z2))))) (la := la)
  have hfl2 : rFl z2 = none → rFl (cBn N ns [] 0 (cEn z1)) = none ∧ rFl z1 = none := fun hn => by
    have h1 : rFl (cBn N ns [] 0 (cEn z1)) = none := ef_no (z := cDD ns.length ns.length (cBn N ns [] 0 (cEn z1))) p4 hn
    have h2 := ef_no Eb h1
    exact ⟨h1, h2⟩
  have cBN : rCd (cBn N ns [] 0 (cEn z1)) = rCd z1 := (u_of b1).1
  have E3 : Ef a b z (cLd ((rCd z).length + 1) (cDD (rDp z1) (rDx z1) (cUn (rSc z).length (cLv (cEl (rLm z).length ((rCd z).length + 2) z2))))) := by
    refine ef_Ld ⟨fun h => ?_, fun hn => ?_⟩ (fun _ => Nat.le_succ _)
    · show rFl z2 = rFl z
      have h1 : rFl (cEn z1) ≠ none := by show rFl z1 ≠ none; rw [f1]; exact h
      have h2 := Eb.1 h1
      have h3 := p4.1 (by show rFl (cBn N ns [] 0 (cEn z1)) ≠ none; rw [h2]; exact h1)
      exact h3.trans (h2.trans f1)
    · have hn : rFl z2 = none := hn
      obtain ⟨n1, n2⟩ := hfl2 hn
      obtain ⟨⟨o1, o2, o3, o4⟩, o5, o6, o7, o8, o9, o10⟩ := E1.2 n2
      obtain ⟨⟨r1, r2, r3, r4⟩, r5, r6, r7, r8, r9, r10⟩ := p4.2 hn
      have u1 : rCd (cDD ns.length ns.length (cBn N ns [] 0 (cEn z1))) = rCd z1 := cBN
      have u2 : rDt (cDD ns.length ns.length (cBn N ns [] 0 (cEn z1))) = rDt z1 := (u_of b1).2.1
      have u3 : rLm (cDD ns.length ns.length (cBn N ns [] 0 (cEn z1))) = rLm z1 := (u_of b1).2.2.1
      have u4 : rSr (cDD ns.length ns.length (cBn N ns [] 0 (cEn z1))) = rSr z1 := (u_of b1).2.2.2
      have u5 : rFm (cDD ns.length ns.length (cBn N ns [] 0 (cEn z1))) = rFm z1 := congrArg (fun s => s.1) b2
      rw [u1] at r1
      rw [u2] at r2 r10
      rw [u3] at r3
      rw [u4] at r4
      rw [u5] at r7 r8 r9
      refine ⟨⟨o1.trans r1, o2.trans r2, pf_set (o3.trans r3) (Nat.le_refl _), (o4.trans r4).trans (List.prefix_append _ _)⟩, fun l hl => ?_, o6, ?_, ?_, ?_, ?_⟩
      · have h1 := r5 l (by show l ≤ rBd (cBn N ns [] 0 (cEn z1)); rw [bb.1, bde]; omega)
        have h2 : rKp (cDD ns.length ns.length (cBn N ns [] 0 (cEn z1))) l = rKp z l := by
          have e1 : rKp (cBn N ns [] 0 (cEn z1)) = rKp (cEn z1) := congrArg Prod.snd t4
          show rKp (cBn N ns [] 0 (cEn z1)) l = _
          rw [e1]
          show (if l = rBd z1 + 1 then [] else rKp z1 l) = _
          rw [if_neg (by rw [(s_of s1).2.1]; omega), (s_of s1).2.2]
        rw [h2] at h1
        exact h1
      · show rFm z ≤ rFm z2; omega
      · show rFm z2 + a ≤ _; omega
      · show _ → rFm z2 ≤ 1500; intro h; exact r9 (by omega)
      · show (rDt z2).length + 2 * a ≤ _; omega
  refine ⟨?_, ?_, ?_, ef_tr E3 (ef_Gb (a := b)) ?_, fun hn => ?_⟩
  · refine (s_of g1).1.trans ?_
    show (rSc z2).take (rSc z).length = _
    rw [hsc2, List.take_left']
    rfl
  · refine (s_of g1).2.1.trans ?_
    show rBd z2 - 1 = _
    omega
  · rw [g1]; exact fin
  · show rBd z ≤ rBd z2 - 1
    omega
  · rw [g2] at hn
    have hn : rFl z2 = none := hn
    obtain ⟨k1, k2, k3, k4, k5⟩ := p5 hn
    have u1 : rCd (cDD ns.length ns.length (cBn N ns [] 0 (cEn z1))) = rCd z1 := cBN
    have u5 : rFm (cDD ns.length ns.length (cBn N ns [] 0 (cEn z1))) = rFm z1 := congrArg (fun s => s.1) b2
    rw [u1] at k4 k5
    rw [u5] at k3 k4
    have y1 : rDp (cLd ((rCd z).length + 1) (cDD (rDp z1) (rDx z1) (cUn (rSc z).length (cLv (cEl (rLm z).length ((rCd z).length + 2) z2))))) = rDp z1 := rfl
    have y2 : rFm (cLd ((rCd z).length + 1) (cDD (rDp z1) (rDx z1) (cUn (rSc z).length (cLv (cEl (rLm z).length ((rCd z).length + 2) z2))))) = rFm z2 := rfl
    have y3 : rDx (cLd ((rCd z).length + 1) (cDD (rDp z1) (rDx z1) (cUn (rSc z).length (cLv (cEl (rLm z).length ((rCd z).length + 2) z2))))) = rDx z1 := rfl
    have y4 : (rCd (cLd ((rCd z).length + 1) (cDD (rDp z1) (rDx z1) (cUn (rSc z).length (cLv (cEl (rLm z).length ((rCd z).length + 2) z2)))))).length = (rCd z2).length := cd_Ld
    rw [y4] at g6 g7
    rw [y3] at g5
    rw [g3, g4, y1, y2]
    refine ⟨d1, by omega, by omega, by omega, by omega⟩
end CPH
