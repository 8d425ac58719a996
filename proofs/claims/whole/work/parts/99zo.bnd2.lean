/-! BUILD. How deep the stack goes: every form -/
section DEQ
variable {N : NS} {mt : List Nat} {z z1 z2 z' : CR} {a b g m D n : Nat} {la : Bool} {F : Nat → Bool → CR → CR}
theorem if_d {u v w : Nat} (hF : CFs N g F) (hD : DFs N g F) (hg : 1 ≤ g) (hs : Sqn g N [u, v, w] a b) (hk : KI z.2.1) (h1 : (rSc z).length + 8 * g ≤ 250) (h2 : rFl z = none → rDp z + 9 * g ≤ D) (h3 : D ≤ 300) : DBe D z (cIf F la u v w z) := by
  obtain ⟨s1, m1, t1, _, _, s2, m2, t2, _, _, s3, m3, t3, _, s4, s5⟩ := hs
  have E1 := hF u m1 false z t1 hk
  have E2 := hF v m2 la (cE 27 0 (rDp (F u false z) - 1) (F u false z)) t2 E1.2.2.1
  have d1 := hD u m1 false z D t1 hk h1 h2 h3
  have dp1 : rFl (F u false z) = none → rDp (F u false z) = rDp z + 1 ∧ rDp z + 9 * g ≤ D := fun c => ⟨(E1.2.2.2.2 c).1, h2 (ef_no E1.2.2.2.1 c)⟩
  have d1' : DBe D z (cE 27 0 (rDp (F u false z) - 1) (F u false z)) := dbe_tr d1 (dbe_E (fun c => by have := dp1 c; omega)) (ef_E (a := 0))
  have sc1 : (rSc (cE 27 0 (rDp (F u false z) - 1) (F u false z))).length + 8 * g ≤ 250 := by show (rSc (F u false z)).length + _ ≤ _; rw [E1.1]; exact h1
  have d2 := hD v m2 la (cE 27 0 (rDp (F u false z) - 1) (F u false z)) D t2 E1.2.2.1 sc1 (fun c => by have := dp1 c; show rDp (F u false z) - 1 + _ ≤ _; omega) h3
  have d12 := dbe_tr d1' d2 E2.2.2.2.1
  unfold cIf
  dsimp only
  generalize hz1 : F u false z = z1 at *
  generalize hz2 : F v la (cE 27 0 (rDp z1 - 1) z1) = z2 at *
  have dp2 : rFl z2 = none → rDp z2 = rDp z + 1 ∧ rDp z + 9 * g ≤ D := fun c => by
    have q := (E2.2.2.2.2 c).1
    have q0 := ef_no E2.2.2.2.1 c
    have q1 := dp1 q0
    have q2 : rDp (cE 27 0 (rDp z1 - 1) z1) = rDp z1 - 1 := rfl
    exact ⟨by omega, q1.2⟩
  obtain ⟨z3, ez3, f1, f2, f3, f4⟩ : ∃ z3, z3 = (if la then z2 else cE 26 0 (rDp z2) z2) ∧ z3.2.1 = z2.2.1 ∧ rFl z3 = rFl z2 ∧ rDp z3 = rDp z2 ∧ DBe D z z3 := by
    cases la
    · exact ⟨_, rfl, rfl, rfl, rfl, dbe_tr d12 (dbe_E (fun c => by have := dp2 c; omega)) (ef_E (a := 0))⟩
    · exact ⟨_, rfl, rfl, rfl, rfl, d12⟩
  rw [← ez3]
  have dD : DBe D z (cLd (rCd z1).length (cDp (rDp z3 - 1) z3)) := dbe_cg f4 rfl rfl rfl
  have kD : KI (cLd (rCd z1).length (cDp (rDp z3 - 1) z3)).2.1 := by show KI z3.2.1; rw [f1]; exact E2.2.2.1
  have E4 := hF w m3 la (cLd (rCd z1).length (cDp (rDp z3 - 1) z3)) t3 kD
  have d4 := hD w m3 la (cLd (rCd z1).length (cDp (rDp z3 - 1) z3)) D t3 kD (by show (rSc z3).length + _ ≤ _; rw [(s_of f1).1, E2.1]; exact sc1) (fun c => by
    have c : rFl z3 = none := c
    rw [f2] at c
    have := dp2 c
    show rDp z3 - 1 + _ ≤ _
    omega) h3
  have d5 := dbe_tr dD d4 E4.2.2.2.1
  split
  · exact d5
  · exact dbe_cg d5 rfl rfl rfl
theorem le_d {ar st k : Nat} (h : DBe D z z1) (hd : rFl z1 = none → rDp z1 ≤ D) : DBe D z (cLe la ar st k z1) := by
  unfold cLe
  cases la
  · exact dbe_cg (dbe_tr h (dbe_E (z := z1) (o := 31) (v := nI k) hd) (ef_E (a := 0))) rfl rfl rfl
  · exact dbe_cg h rfl rfl rfl
theorem let_d {ps bo : List Nat} (hF : CFs N g F) (hD : DFs N g F) (hg : 1 ≤ g) (s1 : Sqn g N (vls N ps) a m) (s2 : Sqn g N bo m b) (hbo : bo ≠ []) (hps : ps.length ≤ 8) (hk : KI z.2.1) (h1 : (rSc z).length + 8 * (g + 1) ≤ 250) (h2 : rFl z = none → rDp z + 9 * (g + 1) ≤ D) (h3 : D ≤ 300) : DBe D z (cLet N F la ps bo z) := by
  have T1 := lt_e hF ps [] a m z s1 hk
  obtain ⟨B1, B2, B3⟩ := bp_e (N := N) ps (rDp z) (cLt N F ps [] z) T1.2.2.1
  have k2 := (bnd_b B1).2
  have d1 := lt_d (D := D) hF hD ps [] a m z s1 hk (by omega) (fun c => by have := h2 c; omega) h3
  have d2 : DBe D z (cBp N ps (rDp z) (cLt N F ps [] z)) := dbe_cg d1 (t_of B3).2.2.2 (t_of B3).2.2.1 (u_of B2).2.2.1
  have R2 := bo_e hF (la := la) bo m b (cBp N ps (rDp z) (cLt N F ps [] z)) hbo s2 k2
  obtain ⟨t, t1, t2, _⟩ := B1
  have scl : (rSc (cBp N ps (rDp z) (cLt N F ps [] z))).length = (rSc z).length + ps.length := by rw [t1, List.length_append, t2, T1.1]
  have dpb : rFl (cBp N ps (rDp z) (cLt N F ps [] z)) = none → rDp (cBp N ps (rDp z) (cLt N F ps [] z)) = rDp z + ps.length ∧ rDp z + 9 * (g + 1) ≤ D := fun c => by
    rw [(t_of B3).2.2.2] at c
    rw [(t_of B3).2.1]
    exact ⟨(T1.2.2.2.2 c).1, h2 (ef_no T1.2.2.2.1 c)⟩
  have d3 := bo_d (D := D) (la := la) hF hD hg bo m b (cBp N ps (rDp z) (cLt N F ps [] z)) s2 k2 (by omega) (fun c => by have := dpb c; omega) h3
  unfold cLet
  refine le_d (dbe_tr d2 d3 R2.2.2.2.1) (fun c => ?_)
  have q := (R2.2.2.2.2 c).1
  have := dpb (ef_no R2.2.2.2.1 c)
  omega
theorem lrc_d {ps bo : List Nat} (hF : CFs N g F) (hD : DFs N g F) (hg : 1 ≤ g) (s1 : Sqn g N (vls N ps) a m) (s2 : Sqn g N bo m b) (hbo : bo ≠ []) (hps : ps.length ≤ 8) (hk : KI z.2.1) (h1 : (rSc z).length + 8 * (g + 1) ≤ 250) (h2 : rFl z = none → rDp z + 9 * (g + 1) ≤ D) (h3 : D ≤ 300) : DBe D z (cLrc N F la ps bo z) := by
  obtain ⟨B1, B2, B3⟩ := bp_e (N := N) ps (rDp z) z hk
  have k1 := (bnd_b B1).2
  obtain ⟨t, t1, t2, _⟩ := B1
  have d1 : DBe D z (cE 22 (nI ps.length) (rDp z + ps.length) (cBp N ps (rDp z) z)) := dbe_tr (dbe_cg (dbe_rf (D := D) (z := z)) (t_of B3).2.2.2 (t_of B3).2.2.1 (u_of B2).2.2.1) (dbe_E (fun c => by rw [(t_of B3).2.2.2] at c; have := h2 c; omega)) (ef_E (a := 0))
  have scl : (rSc (cE 22 (nI ps.length) (rDp z + ps.length) (cBp N ps (rDp z) z))).length = (rSc z).length + ps.length := by
    show (rSc (cBp N ps (rDp z) z)).length = _
    rw [t1, List.length_append, t2]
  have fl1 : rFl (cE 22 (nI ps.length) (rDp z + ps.length) (cBp N ps (rDp z) z)) = rFl z := (t_of B3).2.2.2
  have R1 := lr_e hF ps [] (rDp z) a m (cE 22 (nI ps.length) (rDp z + ps.length) (cBp N ps (rDp z) z)) s1 k1
  have d2 := lr_d (D := D) hF hD hg ps [] (rDp z) a m (cE 22 (nI ps.length) (rDp z + ps.length) (cBp N ps (rDp z) z)) s1 k1 (by omega) (fun c => by rw [fl1] at c; have := h2 c; show rDp z + ps.length + _ ≤ _; omega) h3
  have R2 := bo_e hF (la := la) bo m b _ hbo s2 R1.2.2.1
  have dpb : rFl (cLr N F ps [] (rDp z) (cE 22 (nI ps.length) (rDp z + ps.length) (cBp N ps (rDp z) z))) = none → rDp (cLr N F ps [] (rDp z) (cE 22 (nI ps.length) (rDp z + ps.length) (cBp N ps (rDp z) z))) = rDp z + ps.length ∧ rDp z + 9 * (g + 1) ≤ D := fun c => by
    have q := (R1.2.2.2.2 c).1
    have q0 := ef_no R1.2.2.2.1 c
    rw [fl1] at q0
    exact ⟨q, h2 q0⟩
  have d3 := bo_d (D := D) (la := la) hF hD hg bo m b (cLr N F ps [] (rDp z) (cE 22 (nI ps.length) (rDp z + ps.length) (cBp N ps (rDp z) z))) s2 R1.2.2.1 (by rw [R1.1]; omega) (fun c => by have := dpb c; omega) h3
  unfold cLrc
  refine le_d (dbe_tr (dbe_tr d1 d2 R1.2.2.2.1) d3 R2.2.2.2.1) (fun c => ?_)
  have q := (R2.2.2.2.2 c).1
  have := dpb (ef_no R2.2.2.2.1 c)
  omega
theorem la_d {ns bo : List Nat} (hF : CFs N g F) (hD : DFs N g F) (hg : 1 ≤ g) (hg2 : g ≤ 31) (s2 : Sqn g N bo m b) (hbo : bo ≠ []) (hns : ns.length ≤ 8) (hk : KI z.2.1) (h1 : (rSc z).length + 8 * (g + 1) ≤ 250) (h2 : rFl z = none → rDp z + 9 * (g + 1) ≤ D) : DBe D z (cLa N F la n ns bo z) := by
  by_cases h120 : 120 ≤ (rLm z).length
  · unfold cLa
    rw [if_pos h120]
    exact fun h => absurd h tl_fl
  unfold cLa
  rw [if_neg h120]
  dsimp only
  generalize hzA : cE 26 0 (rDp z + 1) (cE 25 (nI (rLm z).length) (rDp z + 1) (cAl ns.length z)) = zA
  have sA : zA.2.1 = z.2.1 := by rw [← hzA]; rfl
  have lmA : rLm zA = rLm z ++ [(0, ns.length, 0, 0, [])] := by rw [← hzA]; rfl
  have flA : rFl zA = rFl z := by rw [← hzA]; rfl
  have dpA : rDp zA = rDp z + 1 := by rw [← hzA]; rfl
  have dxA : rDx zA = max (max (rDx z) (rDp z + 1)) (rDp z + 1) := by rw [← hzA]; rfl
  have kE : KI (cEn zA).2.1 := by
    have : KI zA.2.1 := by rw [sA]; exact hk
    exact ki_en this
  obtain ⟨Bb, Eb, b1', b2'⟩ := bn_e (N := N) (a := m) ns [] 0 (cEn zA) kE
  have bb := bnd_b Bb
  obtain ⟨t, t1, t2, _⟩ := Bb
  have scB : (rSc (cBn N ns [] 0 (cEn zA))).length = (rSc z).length + ns.length := by
    rw [t1, List.length_append, t2]
    show (rSc zA).length + _ = _
    rw [(s_of sA).1]
  have R2 := bo_e hF (la := true) bo m b (cDD ns.length ns.length (cBn N ns [] 0 (cEn zA))) hbo s2 bb.2
  have d2 := bo_d (D := ns.length + 9 * g) (la := true) hF hD hg bo m b (cDD ns.length ns.length (cBn N ns [] 0 (cEn zA))) s2 bb.2 (by show (rSc (cBn N ns [] 0 (cEn zA))).length + _ ≤ _; omega) (fun _ => Nat.le_refl _) (by omega)
  generalize hz2 : cBo F true bo (cDD ns.length ns.length (cBn N ns [] 0 (cEn zA))) = z2 at *
  have lmB : rLm (cBn N ns [] 0 (cEn zA)) = rLm zA := (u_of b1').2.2.1
  have fin : DBe D z (cLd ((rCd z).length + 1) (cDD (rDp zA) (rDx zA) (cUn (rSc z).length (cLv (cEl (rLm z).length ((rCd z).length + 2) z2))))) := fun hn => by
    have hn : rFl z2 = none := hn
    obtain ⟨p1, p2, p3⟩ := d2 hn
    have nB : rFl (cBn N ns [] 0 (cEn zA)) = none := ef_no (z := cDD ns.length ns.length (cBn N ns [] 0 (cEn zA))) R2.2.2.2.1 hn
    have nz : rFl z = none := by
      have := ef_no Eb nB
      have : rFl zA = none := this
      rw [flA] at this
      exact this
    have hd := h2 nz
    have p1 : rDx z2 ≤ max ns.length (ns.length + 9 * g) := p1
    have p2 : (rLm z2).length ≤ max (rLm (cBn N ns [] 0 (cEn zA))).length 120 := p2
    have p3 : ∀ (j : Nat) (e : LMe), (rLm (cBn N ns [] 0 (cEn zA))).length ≤ j → (rLm z2)[j]? = some e → e.2.2.1 ≤ 300 ∧ e.2.2.2.2.length ≤ 250 := p3
    rw [lmB, lmA, List.length_append, List.length_singleton] at p2 p3
    refine ⟨by show rDx zA ≤ _; rw [dxA]; omega, ?_, fun j e hj he => ?_⟩
    · show ((rLm z2).set _ _).length ≤ _
      rw [List.length_set]
      omega
    · have he : ((rLm z2).set (rLm z).length ((rCd z).length + 2, ((rLm z2).getD (rLm z).length (0, 0, 0, 0, [])).2.1, rDx z2, (rSr z2).length, rKp z2 (rBd z2)))[j]? = some e := he
      rw [List.getElem?_set] at he
      by_cases c : (rLm z).length = j
      · rw [if_pos c] at he
        by_cases c2 : (rLm z).length < (rLm z2).length
        · rw [if_pos c2] at he
          injection he with he
          rw [← he]
          refine ⟨by show rDx z2 ≤ 300; omega, ?_⟩
          show (rKp z2 (rBd z2)).length ≤ 250
          obtain ⟨nd, hx⟩ := R2.2.2.1.2.2 (rBd z2) (Nat.le_refl _)
          have := pige_nd (rSc z2).length (rKp z2 (rBd z2)) nd (fun x hx' => (hx x hx').1)
          have hs2 : (rSc z2).length = (rSc z).length + ns.length := by rw [R2.1]; exact scB
          omega
        · rw [if_neg c2] at he
          cases he
      · rw [if_neg c] at he
        exact p3 j e (by omega) he
  refine dbe_gb fin (fun c => ?_)
  have c : rFl z2 = none := c
  have nB : rFl (cBn N ns [] 0 (cEn zA)) = none := ef_no (z := cDD ns.length ns.length (cBn N ns [] 0 (cEn zA))) R2.2.2.2.1 c
  have nE := ef_no Eb nB
  have nA : rFl zA = none := nE
  rw [flA] at nA
  have := h2 nA
  show rDp zA ≤ D
  omega
theorem cF_d : ∀ (f g : Nat), g ≤ f → f ≤ 40 → g ≤ 32 → ∀ (n b : Nat) (la row : Bool) (z : CR) (D : Nat), Tr g N n b → b < 2000000000 → KI z.2.1 → (rSc z).length + 8 * g ≤ 250 → (rFl z = none → rDp z + 9 * g ≤ D) → D ≤ 300 → DBe D z (cF N mt f n la row z)
  | 0, g, hg, _, _, n, b, la, row, z, D, h, _, _, _, _, _ => by
    have : g = 0 := by omega
    subst this
    exact h.elim
  | f + 1, 0, _, _, _, _, _, _, _, _, _, h, _, _, _, _, _ => h.elim
  | f + 1, g + 1, hg, hf, hg3, n, b, la, row, z, D, h, hbb, hk, h1, h2, h3 => by
    have hF : CFs N g (fun a la => cF N mt f a la false) := fun v m la z ht hk => cF_e f g (by omega) (by omega) v m la false z ht.1 ht.2 hk
    have hD : DFs N g (fun a la => cF N mt f a la false) := fun v m la z D ht hk h1 h2 h3 => cF_d f g (by omega) (by omega) (by omega) v m la false z D ht.1 ht.2 hk h1 h2 h3
    obtain ⟨x1, x2, x3, x4, x5, x6⟩ := ef_Ct (N := N) (z := z) (n := n)
    have hkc : KI (cCt N n z).2.1 := by rw [x2]; exact hk
    have scc : rSc (cCt N n z) = rSc z := (s_of x2).1
    have dxc : rDx (cCt N n z) = rDx z := by unfold cCt; split <;> rfl
    have lmc : rLm (cCt N n z) = rLm z := by unfold cCt; split <;> rfl
    have h1c : (rSc (cCt N n z)).length + 8 * (g + 1) ≤ 250 := by rw [scc]; exact h1
    have h2c : rFl (cCt N n z) = none → rDp (cCt N n z) + 9 * (g + 1) ≤ D := fun c => by rw [x3]; exact h2 (ef_no x1 c)
    have leaf : ∀ {z1 : CR}, DBe D z z1 → (rFl z1 = none → rDp z1 ≤ D) → DBe D z (cGb la (cCt N n z1)) := fun {z1} d hd => by
      obtain ⟨y1, y2, y3, y4, y5, y6⟩ := ef_Ct (N := N) (z := z1) (n := n)
      have dx1 : rDx (cCt N n z1) = rDx z1 := by unfold cCt; split <;> rfl
      have lm1 : rLm (cCt N n z1) = rLm z1 := by unfold cCt; split <;> rfl
      refine dbe_gb (fun hn => ?_) (fun c => by rw [y3]; exact hd (ef_no y1 c))
      have := d (ef_no y1 hn)
      rw [dx1, lm1]
      exact this
    rw [cF]
    by_cases cf : rFl z ≠ none
    · rw [if_pos cf]; exact dbe_rf
    have cf : rFl z = none := Classical.byContradiction cf
    rw [if_neg (fun c => c cf)]
    have hd := h2 cf
    by_cases c6 : nK N n = 6
    · rw [if_pos c6]
      by_cases cs : shp N n (wrd N n) row = false
      · rw [if_pos cs]
        exact fun hh => absurd hh tl_fl
      rw [if_neg cs]
      have cs : shp N n (wrd N n) row = true := by simpa using cs
      have hw := wrd_le (N := N) (n := n)
      have hfr := (tr_pts h c6 hbb).2.2
      have hsq := frs_sqn _ _ _ hfr hbb
      have hsq1 := sqn_drop 1 _ _ _ hsq
      have hg1 : pts N n ≠ [] → 1 ≤ g := fun hp => by
        match hpp : pts N n, hp with
        | c :: l, _ =>
          rw [hpp] at hfr
          obtain ⟨_, m, e1, _⟩ := hfr
          cases g with
          | zero => exact e1.elim
          | succ g => omega
      refine dbe_cl (z1 := cCt N n z) ?_ dxc lmc
      by_cases w3 : wrd N n = 3
      · rw [if_pos w3]
        rw [w3] at cs
        have hl := shp_3 cs
        have e : (pts N n).drop 1 = [prt N n 1, prt N n 2, prt N n 3] := by
          unfold prt
          match hp : pts N n, hl with
          | [a, b, c, d], _ => rfl
        rw [e] at hsq1
        exact if_d hF hD (hg1 (fun e => by rw [e] at hl; simp at hl)) hsq1 hkc (by omega) (fun c => by have := h2c c; omega) h3
      rw [if_neg w3]
      by_cases w4 : wrd N n = 4
      · rw [if_pos w4]
        rw [w4] at cs
        obtain ⟨l1, l2⟩ := shp_4 cs
        obtain ⟨m, q1, q2⟩ := let_sq h c6 hbb l1 l2
        exact let_d hF hD (hg1 (fun e => by rw [e] at l1; simp at l1)) q1 q2 (dr_ne (by omega)) (arP_2 l2).2.1 hkc h1c h2c h3
      rw [if_neg w4]
      by_cases w5 : wrd N n = 5
      · rw [if_pos w5]
        rw [w5] at cs
        obtain ⟨l1, l2⟩ := shp_5 cs
        obtain ⟨m, q1, q2⟩ := let_sq h c6 hbb l1 l2
        exact lrc_d hF hD (hg1 (fun e => by rw [e] at l1; simp at l1)) q1 q2 (dr_ne (by omega)) (arP_2 l2).2.1 hkc h1c h2c h3
      rw [if_neg w5]
      by_cases w7 : wrd N n = 7
      · rw [if_pos w7]
        have l1 := shp_7 cs (Or.inl w7)
        exact bo_d hF hD (hg1 (fun e => by rw [e] at l1; simp at l1)) _ _ _ _ hsq1 hkc (by omega) (fun c => by have := h2c c; omega) h3
      rw [if_neg w7]
      have ut : ∀ o : Int32, wrd N n = 8 ∨ wrd N n = 9 → DBe D (cCt N n z) (cUn2 (fun a la => cF N mt f a la false) la o ((pts N n).drop 1) (cCt N n z)) := fun o hw8 => by
        have l1 := shp_7 cs (Or.inr hw8)
        have hdn : (pts N n).drop 1 ≠ [] := dr_ne (by omega)
        have hg1' := hg1 (fun e => by rw [e] at l1; simp at l1)
        obtain ⟨i1, i2⟩ := ut_d (D := D) (la := la) (o := o) hF hD hg1' ((pts N n).drop 1) [] (n + 1) b (cCt N n z) hdn hsq1 hkc (by omega) (fun c => by have := h2c c; omega) h3
        have U := ut_e hF (la := la) (o := o) (z0 := cCt N n z) (c := n + 1) ((pts N n).drop 1) [] (n + 1) b (cCt N n z) hdn hsq1 hkc rfl (fun _ => ⟨oke_rf, fun x hx => by cases hx⟩)
        rw [ut_0 _ _ _ hdn] at U
        unfold cUn2
        rw [ut_0 _ _ _ hdn]
        generalize cU0 (fun a la => cF N mt f a la false) la o ((pts N n).drop 1) [] (cCt N n z) = W at *
        obtain ⟨o1, o2, o3⟩ := lds_o (z := W.1) (xs := W.2)
        refine dbe_gb (dbe_cg i1 (congrArg (fun t => t.2.2) o1) (congrArg (fun t => t.2.1.2.2) o1) (congrArg (fun t => t.2.1) o2)) (fun c => ?_)
        have q := (U.2.2.2.2 c).2.1
        have q0 : rFl W.1 = none := by
          have e0 : rFl (lds W.2 W.1) = rFl W.1 := congrArg (fun t => t.2.2) o1
          rw [← e0]; exact c
        have := h2c (ef_no i2 q0)
        omega
      by_cases w8 : wrd N n = 8
      · rw [if_pos w8]; exact ut 28 (Or.inl w8)
      rw [if_neg w8]
      by_cases w9 : wrd N n = 9
      · rw [if_pos w9]; exact ut 29 (Or.inr w9)
      rw [if_neg w9]
      by_cases w0 : wrd N n = 0
      · rw [if_pos w0]
        rw [w0] at cs
        obtain ⟨l1, l2⟩ := shp_0 cs
        have Cl := cl_e hF (pts N n) (n + 1) b (cCt N n z) hsq hkc
        unfold cCl
        dsimp only
        refine dbe_tr (cl_d (D := D) hF hD (pts N n) (n + 1) b (cCt N n z) hsq hkc (by omega) (fun c => by have := h2c c; omega) h3) (dbe_E (fun c => ?_)) (ef_E (a := 0))
        have q := (Cl.2.2.2.2 c).1
        have := h2c (ef_no Cl.2.2.2.1 c)
        omega
      rw [if_neg w0]
      by_cases w2 : wrd N n = 2
      · rw [if_pos w2]
        rw [w2] at cs
        obtain ⟨l1, l2⟩ := shp_2 cs
        obtain ⟨m0, m, e1, e2, e3, e4, e5, e6, e7, e8⟩ := big_tr h c6 hbb (by omega)
        exact la_d hF hD (hg1 (fun e => by rw [e] at l1; simp at l1)) (by omega) e5 (dr_ne (by omega)) (arN_2 l2).2.1 hkc h1c h2c
      rw [if_neg w2]
      by_cases w1 : wrd N n = 1
      · rw [if_pos w1]
        unfold cQt
        refine dbe_gb (fun hn => ?_) (fun c => ?_)
        · have c : rFl (cCt N n z) = none := hn
          have := h2c c
          exact dbe_same (z := cCt N n z) (z1 := cE (vkd (cDm N mt 40 (prt N n 1) (rDt (cCt N n z))).1) ((cDm N mt 40 (prt N n 1) (rDt (cCt N n z))).1).toInt32 (rDp (cCt N n z) + 1) (cDt (cDm N mt 40 (prt N n 1) (rDt (cCt N n z))).2 (cCt N n z))) (by show max (rDx (cCt N n z)) (rDp (cCt N n z) + 1) ≤ _; omega) rfl hn
        · have := h2c c
          show rDp (cCt N n z) + 1 ≤ D
          omega
      rw [if_neg w1]
      have nv : ∀ (z0 : CR) (v : Nat) (m : Nat), Trb g N v m → z0.2.1 = (cCt N n z).2.1 → rDx z0 = rDx (cCt N n z) → rLm z0 = rLm (cCt N n z) → rDp z0 = rDp (cCt N n z) → (rFl z0 = none → rFl (cCt N n z) = none) → DBe D (cCt N n z) (cF N mt f v false false z0) := fun z0 v m ht e1 e2 e3 e4 e5 => dbe_cl (hD v m false z0 D ht (by rw [e1]; exact hkc) (by rw [(s_of e1).1]; omega) (fun c => by rw [e4]; have := h2c (e5 c); omega) h3) e2 e3
      by_cases w6 : wrd N n = 6
      · rw [if_pos w6]
        rw [w6] at cs
        obtain ⟨l1, l2⟩ := shp_6 cs
        obtain ⟨m1, t1, t2, t3, t4, _⟩ := three_tr h c6 hbb l1
        have hg1' := hg1 (fun e => by rw [e] at l1; simp at l1)
        obtain ⟨z0, e0, s1, s2, s3, s4, s5⟩ : ∃ z0, z0 = (if nCn N (prt N n 1) < 30 then cTl 5 (nQ N (prt N n 1)) (cCt N n z) else if cMn N (nCn N (prt N n 1)) (cCt N n z) then cCt N n z else cTl 4 (nQ N (prt N n 1)) (cCt N n z)) ∧ z0.2.1 = (cCt N n z).2.1 ∧ rDx z0 = rDx (cCt N n z) ∧ rLm z0 = rLm (cCt N n z) ∧ rDp z0 = rDp (cCt N n z) ∧ (rFl z0 = none → rFl (cCt N n z) = none) := by
          refine ⟨_, rfl, ?_⟩
          split
          · exact ⟨rfl, rfl, rfl, rfl, fun c => absurd c tl_fl⟩
          · split
            · exact ⟨rfl, rfl, rfl, rfl, fun c => c⟩
            · exact ⟨rfl, rfl, rfl, rfl, fun c => absurd c tl_fl⟩
        unfold cSt
        dsimp only
        rw [← e0]
        have d1 := nv z0 (prt N n 2) b ⟨t1, hbb⟩ s1 s2 s3 s4 s5
        have E1 := hF (prt N n 2) b false z0 ⟨t1, hbb⟩ (by rw [s1]; exact hkc)
        have dp1 : rFl (cF N mt f (prt N n 2) false false z0) = none → rDp (cF N mt f (prt N n 2) false false z0) ≤ D := fun c => by
          have q : rDp (cF N mt f (prt N n 2) false false z0) = rDp z0 + 1 := (E1.2.2.2.2 c).1
          have := h2c (s5 (ef_no E1.2.2.2.1 c))
          rw [s4] at q
          omega
        split
        · rename_i c
          obtain ⟨w1', w2', w3', w4', w5', w6', w7', w8', w9'⟩ := vr_e (N := N) (j := nCn N (prt N n 1)) (o := 19) (dp := rDp (cF N mt f (prt N n 2) false false z0)) (a := 0) E1.2.2.1
          refine dbe_gb (dbe_tr d1 (fun hn => dbe_same ?_ ?_ hn) w4') (fun c2 => by rw [w5']; exact dp1 c)
          · unfold cVr
            split
            · rw [dx_E]; have := dp1 c; omega
            · split
              · rw [dx_E]; have := dp1 c; omega
              · rw [dx_E]; have := dp1 c; show max (rDx (cF N mt f (prt N n 2) false false z0)) _ ≤ _; omega
          · unfold cVr
            split
            · rfl
            · split <;> rfl
        · exact dbe_gb d1 dp1
      · rw [if_neg w6]
        have w10 : wrd N n = 10 := by omega
        rw [w10] at cs
        obtain ⟨l0, l1, l2⟩ := shp_10 cs
        obtain ⟨m1, t1, t2, t3, t4, _⟩ := three_tr h c6 hbb l1
        have hg1' := hg1 (fun e => by rw [e] at l1; simp at l1)
        obtain ⟨z0, e0, s1, s2, s3, s4, s5⟩ : ∃ z0, z0 = (if nCn N (prt N n 1) < 30 then cTl 5 (nQ N (prt N n 1)) (cCt N n z) else if 100 ≤ (gdf N).idxOf (nCn N (prt N n 1)) ∧ nCn N (prt N n 1) ∈ gdf N then cTl 6 (nQ N (prt N n 1)) (cCt N n z) else cCt N n z) ∧ z0.2.1 = (cCt N n z).2.1 ∧ rDx z0 = rDx (cCt N n z) ∧ rLm z0 = rLm (cCt N n z) ∧ rDp z0 = rDp (cCt N n z) ∧ (rFl z0 = none → rFl (cCt N n z) = none) := by
          refine ⟨_, rfl, ?_⟩
          split
          · exact ⟨rfl, rfl, rfl, rfl, fun c => absurd c tl_fl⟩
          · split
            · exact ⟨rfl, rfl, rfl, rfl, fun c => absurd c tl_fl⟩
            · exact ⟨rfl, rfl, rfl, rfl, fun c => c⟩
        unfold cDf
        dsimp only
        rw [← e0]
        have d1 := nv z0 (prt N n 2) b ⟨t1, hbb⟩ s1 s2 s3 s4 s5
        have E1 := hF (prt N n 2) b false z0 ⟨t1, hbb⟩ (by rw [s1]; exact hkc)
        refine dbe_tr d1 (dbe_E (fun c => ?_)) (ef_E (a := 0))
        have q : rDp (cF N mt f (prt N n 2) false false z0) = rDp z0 + 1 := (E1.2.2.2.2 c).1
        have := h2c (s5 (ef_no E1.2.2.2.1 c))
        rw [s4] at q
        show rDp (cF N mt f (prt N n 2) false false z0) ≤ D
        omega
    · rw [if_neg c6]
      by_cases c5 : nK N n = 5
      · rw [if_pos c5]
        obtain ⟨v1, v2, v3, v4, v5⟩ := cNm_e (N := N) (n := n) (a := n) hk
        have lmN : rLm (cNm N n z) = rLm z := by
          unfold cNm
          split
          · rfl
          · split
            · rfl
            · split
              · unfold cVr
                split
                · rfl
                · split <;> rfl
              · rfl
        have dxN : rDx (cNm N n z) ≤ max (rDx z) (rDp z + 1) := by
          unfold cNm
          split
          · exact Nat.le_max_left _ _
          · split
            · exact Nat.le_refl _
            · split
              · unfold cVr
                split
                · exact Nat.le_refl _
                · split <;> exact Nat.le_refl _
              · exact Nat.le_max_left _ _
        exact leaf (dbe_same (by omega) lmN) (fun c => by rw [(v5 c).1]; omega)
      · rw [if_neg c5]
        exact leaf (dbe_E (fun _ => by omega)) (fun _ => by show rDp z + 1 ≤ D; omega)
end DEQ
