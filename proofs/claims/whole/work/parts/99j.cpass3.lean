/-! BUILD. What compiling keeps: the forms -/
section TRL
variable {N : NS}
theorem frs_mono {R R' : Nat → Nat → Prop} {X : Nat → Int32} (h : ∀ u v, R u v → R' u v) : ∀ (ps : List Nat) (a b : Nat), Frs R X ps a b → Frs R' X ps a b
  | [], _, _, e => e
  | c :: ps, a, b, e => by
    obtain ⟨e0, m, e1, e2, e3, e4, e5⟩ := e
    exact ⟨e0, m, h _ _ e1, e2, e3, e4, frs_mono h ps m b e5⟩
theorem tr_s : ∀ (g a b : Nat), Tr g N a b → Tr (g + 1) N a b
  | 0, _, _, h => h.elim
  | g + 1, a, b, h => by
    rcases h with h | ⟨h1, ps, h2, h3, h4, h5⟩
    · exact Or.inl h
    · exact Or.inr ⟨h1, ps, h2, h3, h4, frs_mono (fun u v => tr_s g u v) ps _ _ h5⟩
theorem tr_mono {g g' a b : Nat} (h : Tr g N a b) (hg : g ≤ g') : Tr g' N a b := by
  induction hg with
  | refl => exact h
  | step _ ih => exact tr_s _ _ _ ih
theorem frs_sqn {g : Nat} {X : Nat → Int32} : ∀ (ps : List Nat) (a b : Nat), Frs (Tr g N) X ps a b → b < 2000000000 → Sqn g N ps a b
  | [], _, _, e, _ => Nat.le_of_eq e
  | c :: ps, a, b, e, hb => by
    obtain ⟨e0, m, e1, e2, e3, e4, e5⟩ := e
    subst e0
    exact ⟨Nat.le_refl _, m, ⟨e1, by omega⟩, e2, e3, frs_sqn ps m b e5 hb⟩
theorem sqn_mono {g g' : Nat} (hg : g ≤ g') : ∀ (l : List Nat) (a b : Nat), Sqn g N l a b → Sqn g' N l a b
  | [], _, _, h => h
  | v :: l, a, b, h => by
    obtain ⟨h1, m, h2, h3, h4, h5⟩ := h
    exact ⟨h1, m, ⟨tr_mono h2.1 hg, h2.2⟩, h3, h4, sqn_mono hg l m b h5⟩
theorem sqn_drop {g : Nat} : ∀ (k : Nat) (l : List Nat) (a b : Nat), Sqn g N l a b → Sqn g N (l.drop k) a b
  | 0, _, _, _, h => h
  | _ + 1, [], _, _, h => h
  | k + 1, v :: l, a, b, h => by
    obtain ⟨h1, m, h2, h3, h4, h5⟩ := h
    exact seq_wk (sqn_drop k l m b h5) (by omega)
/-- a list of two: its second part -/
theorem two_tr {g p m : Nat} (h : Tr g N p m) (h2 : (pts N p).length = 2) (hm : m < 2000000000) : ∃ g', g = g' + 1 ∧ nK N p = 6 ∧ Tr g' N (prt N p 1) m ∧ p + 1 < prt N p 1 ∧ prt N p 0 = p + 1 := by
  cases g with
  | zero => exact h.elim
  | succ g =>
    have h6 : nK N p = 6 := Classical.byContradiction fun c => by rw [pts_no c] at h2; cases h2
    obtain ⟨a1, a2, a3⟩ := tr_pts h h6 hm
    match hp : pts N p, h2, a3 with
    | [x, y], _, a3 =>
      obtain ⟨b0, m1, b1, b2, b3, b4, c0, m2, c1, c2, c3, c4, c5⟩ := a3
      have c5 : m2 = m := c5
      subst c5
      subst c0
      have e1 : prt N p 1 = y := by unfold prt; rw [hp]; rfl
      have e0 : prt N p 0 = x := by unfold prt; rw [hp]; rfl
      rw [e1, e0]
      exact ⟨g, rfl, h6, c1, b2, b0⟩
/-- the values of pairs -/
theorem prs_sqn {g : Nat} {X : Nat → Int32} : ∀ (ps : List Nat) (a b : Nat), Frs (Tr g N) X ps a b → b < 2000000000 → (∀ p, p ∈ ps → (pts N p).length = 2) → Sqn g N (vls N ps) a b
  | [], _, _, e, _, _ => Nat.le_of_eq e
  | c :: ps, a, b, e, hb, hp => by
    obtain ⟨e0, m, e1, e2, e3, e4, e5⟩ := e
    subst e0
    obtain ⟨g', eg, _, t1, t2, _⟩ := two_tr e1 (hp c (by simp)) (by omega)
    exact ⟨by show _ ≤ prt N c 1; omega, m, ⟨tr_mono t1 (by omega), by omega⟩, tr_lt _ _ _ _ t1, e3, prs_sqn ps m b e5 hb (fun p h => hp p (List.mem_cons_of_mem _ h))⟩
theorem arP_2 {i : Nat} (h : arP N i = true) : nK N i = 6 ∧ (pts N i).length ≤ 8 ∧ ∀ p, p ∈ pts N i → (pts N p).length = 2 ∧ nK N (prt N p 0) = 5 := by
  unfold arP at h
  simp only [Bool.and_eq_true, beq_iff_eq, decide_eq_true_eq, List.all_eq_true] at h
  exact ⟨h.1.1, h.1.2, h.2⟩
theorem arN_2 {i : Nat} (h : arN N i = true) : nK N i = 6 ∧ (pts N i).length ≤ 8 ∧ ∀ p, p ∈ pts N i → nK N p = 5 := by
  unfold arN at h
  simp only [Bool.and_eq_true, beq_iff_eq, decide_eq_true_eq, List.all_eq_true] at h
  exact ⟨h.1.1, h.1.2, h.2⟩
/-- a list of three parts at least: the first, the second, the others -/
theorem big_tr {g n b : Nat} (h : Tr (g + 1) N n b) (h6 : nK N n = 6) (hb : b < 2000000000) (h3 : 2 ≤ (pts N n).length) : ∃ m0 m1, pts N n = (n + 1) :: prt N n 1 :: (pts N n).drop 2 ∧ Tr g N (n + 1) m0 ∧ prt N n 1 = m0 ∧ Tr g N (prt N n 1) m1 ∧ Sqn g N ((pts N n).drop 2) m1 b ∧ m1 ≤ b ∧ n + 1 < m0 ∧ m0 < m1 := by
  obtain ⟨a1, a2, a3⟩ := tr_pts h h6 hb
  match hp : pts N n, h3, a3 with
  | x :: y :: l, _, a3 =>
    obtain ⟨b0, m1, b1, b2, b3, b4, c0, m2, c1, c2, c3, c4, c5⟩ := a3
    subst b0
    subst c0
    have e1 : prt N n 1 = y := by unfold prt; rw [hp]; rfl
    rw [e1]
    exact ⟨y, m2, rfl, b1, rfl, c1, frs_sqn _ _ _ c5 hb, c3, b2, c2⟩
/-- the values of a let lie before its body -/
theorem let_sq {g n b : Nat} (h : Tr (g + 1) N n b) (h6 : nK N n = 6) (hb : b < 2000000000) (h3 : 3 ≤ (pts N n).length) (hp : arP N (prt N n 1) = true) : ∃ m, Sqn g N (vls N (pts N (prt N n 1))) (n + 1) m ∧ Sqn g N ((pts N n).drop 2) m b := by
  obtain ⟨m0, m1, e1, e2, e3, e4, e5, e6, e7, e8⟩ := big_tr h h6 hb (by omega)
  obtain ⟨p1, p2, p3⟩ := arP_2 hp
  cases g with
  | zero => exact e4.elim
  | succ g =>
    obtain ⟨a1, a2, a3⟩ := tr_pts e4 p1 (by omega)
    exact ⟨m1, seq_wk (sqn_mono (Nat.le_succ _) _ _ _ (prs_sqn _ _ _ a3 (by omega) (fun p hp => (p3 p hp).1))) (by omega), e5⟩
end TRL
section CPF
variable {N : NS} {mt : List Nat} {z : CR} {g : Nat} {F : Nat → Bool → CR → CR}
theorem lds_e : ∀ (xs : List Nat) (z : CR), (xs.foldl (fun z x => cLd x z) z).2 = z.2 ∧ (xs.foldl (fun z x => cLd x z) z).1.2 = z.1.2 ∧ (rCd (xs.foldl (fun z x => cLd x z) z)).length = (rCd z).length
  | [], z => ⟨rfl, rfl, rfl⟩
  | x :: xs, z => by
    rw [List.foldl_cons]
    obtain ⟨a, b, c⟩ := lds_e xs (cLd x z)
    exact ⟨a, b, c.trans cd_Ld⟩
theorem lds_p {l : List (Int32 × Int32)} : ∀ (xs : List Nat) (z : CR), l <+: rCd z → (∀ x, x ∈ xs → l.length ≤ x) → l <+: rCd (xs.foldl (fun z x => cLd x z) z)
  | [], _, h, _ => h
  | x :: xs, z, h, hx => by
    rw [List.foldl_cons]
    exact lds_p xs (cLd x z) (pf_set h (hx x (by simp))) (fun y hy => hx y (List.mem_cons_of_mem _ hy))
theorem ut_e (hF : CFs N g F) {la : Bool} {o : Int32} {z0 : CR} {c : Nat} : ∀ (l xs : List Nat) (a b : Nat) (z : CR), l ≠ [] → Sqn g N l a b → KI z.2.1 → rBd z = rBd z0 → (rFl z = none → OKe c a z0 z ∧ ∀ x, x ∈ xs → (rCd z0).length ≤ x) → rSc (cUt F la o l xs z) = rSc z ∧ rBd (cUt F la o l xs z) = rBd z ∧ KI (cUt F la o l xs z).2.1 ∧ (rFl z ≠ none → rFl (cUt F la o l xs z) = rFl z) ∧ (rFl (cUt F la o l xs z) = none → OKe c b z0 (cUt F la o l xs z) ∧ rDp (cUt F la o l xs z) = rDp z + 1 ∧ rDp z + 1 ≤ rDx (cUt F la o l xs z) ∧ rFm z < rFm (cUt F la o l xs z) ∧ (rCd (cUt F la o l xs z)).length + 2 ≤ (rCd z).length + 5 * (rFm (cUt F la o l xs z) - rFm z) ∧ (rCd z).length < (rCd (cUt F la o l xs z)).length)
  | [], _, _, _, _, h, _, _, _, _ => absurd rfl h
  | [v], xs, a, b, z, _, hs, hk, hb, hz => by
    obtain ⟨h1, m, h2, h3, h4, h5⟩ := hs
    obtain ⟨e1, e2, e3, e4, e5⟩ := hF v m la z h2 hk
    obtain ⟨l1, l2, l3⟩ := lds_e xs (F v la z)
    show rSc (xs.foldl (fun z x => cLd x z) (F v la z)) = rSc z ∧ rBd (xs.foldl (fun z x => cLd x z) (F v la z)) = rBd z ∧ KI (xs.foldl (fun z x => cLd x z) (F v la z)).2.1 ∧ (rFl z ≠ none → rFl (xs.foldl (fun z x => cLd x z) (F v la z)) = rFl z) ∧ (rFl (xs.foldl (fun z x => cLd x z) (F v la z)) = none → OKe c b z0 (xs.foldl (fun z x => cLd x z) (F v la z)) ∧ rDp (xs.foldl (fun z x => cLd x z) (F v la z)) = rDp z + 1 ∧ rDp z + 1 ≤ rDx (xs.foldl (fun z x => cLd x z) (F v la z)) ∧ rFm z < rFm (xs.foldl (fun z x => cLd x z) (F v la z)) ∧ (rCd (xs.foldl (fun z x => cLd x z) (F v la z))).length + 2 ≤ (rCd z).length + 5 * (rFm (xs.foldl (fun z x => cLd x z) (F v la z)) - rFm z) ∧ (rCd z).length < (rCd (xs.foldl (fun z x => cLd x z) (F v la z))).length)
    have q1 : rSc (xs.foldl (fun z x => cLd x z) (F v la z)) = rSc (F v la z) := by unfold rSc; rw [l1]
    have q2 : rBd (xs.foldl (fun z x => cLd x z) (F v la z)) = rBd (F v la z) := by unfold rBd; rw [l1]
    have q3 : rFl (xs.foldl (fun z x => cLd x z) (F v la z)) = rFl (F v la z) := by unfold rFl; rw [l1]
    have q4 : rDp (xs.foldl (fun z x => cLd x z) (F v la z)) = rDp (F v la z) := by unfold rDp; rw [l1]
    have q5 : rDx (xs.foldl (fun z x => cLd x z) (F v la z)) = rDx (F v la z) := by unfold rDx; rw [l1]
    have q6 : rFm (xs.foldl (fun z x => cLd x z) (F v la z)) = rFm (F v la z) := by unfold rFm; rw [l1]
    rw [q1, q2, q3, q4, q5, q6, l3, l1]
    refine ⟨e1, e2, e3, e4.1, fun hn => ⟨?_, e5 hn⟩⟩
    obtain ⟨hz1, hz2⟩ := hz (ef_no e4 hn)
    obtain ⟨⟨p1, p2, p3, p4⟩, p5, p6, p7, p8, p9, p10⟩ := oke_tr hz1 (oke_wk (e4.2 hn) h1 h4) (Nat.le_of_eq hb.symm)
    have d1 : rDt (xs.foldl (fun z x => cLd x z) (F v la z)) = rDt (F v la z) := by unfold rDt; rw [l2]
    have d2 : rLm (xs.foldl (fun z x => cLd x z) (F v la z)) = rLm (F v la z) := by unfold rLm; rw [l2]
    have d3 : rSr (xs.foldl (fun z x => cLd x z) (F v la z)) = rSr (F v la z) := by unfold rSr; rw [l2]
    have d4 : rKp (xs.foldl (fun z x => cLd x z) (F v la z)) = rKp (F v la z) := by unfold rKp; rw [l1]
    unfold OKe
    rw [d1, d2, d3, d4, q5, q6]
    exact ⟨⟨lds_p xs _ p1 hz2, p2, p3, p4⟩, p5, p6, p7, p8, p9, p10⟩
  | v :: w :: l, xs, a, b, z, _, hs, hk, hb, hz => by
    obtain ⟨h1, m, h2, h3, h4, h5⟩ := hs
    obtain ⟨e1, e2, e3, e4, e5⟩ := hF v m false z h2 hk
    have E := ef_tr (ef_wk e4 h1 (Nat.le_refl _)) (ef_E (o := o) (v := oI xs.head?) (dp := rDp (F v false z) - 1)) (Nat.le_of_eq e2.symm)
    have ih := ut_e hF (la := la) (o := o) (z0 := z0) (c := c) (w :: l) ((rCd (F v false z)).length :: xs) m b (cE o (oI xs.head?) (rDp (F v false z) - 1) (F v false z)) (by simp) h5 e3 (e2.trans hb) (fun hn => by
      obtain ⟨hz1, hz2⟩ := hz (ef_no E hn)
      have O := oke_tr hz1 (E.2 hn) (Nat.le_of_eq hb.symm)
      refine ⟨O, fun x hx => ?_⟩
      rcases List.mem_cons.mp hx with rfl | hx
      · have := (oke_tr hz1 (oke_wk (e4.2 hn) h1 (Nat.le_refl _)) (Nat.le_of_eq hb.symm)).1.1
        exact this.length_le
      · exact hz2 x hx)
    obtain ⟨f1, f2, f3, f4, f5⟩ := ih
    refine ⟨f1.trans e1, f2.trans e2, f3, fun h => (f4 (by show rFl (F v false z) ≠ none; rw [e4.1 h]; exact h)).trans (e4.1 h), fun hn => ?_⟩
    obtain ⟨k0, k1, k2, k3, k4, k5⟩ := f5 hn
    have hn1 : rFl (F v false z) = none := Classical.byContradiction fun c => by
      have h9 : rFl (cUt F la o (v :: w :: l) xs z) = rFl (F v false z) := f4 c
      rw [hn] at h9
      exact c h9.symm
    obtain ⟨g1, g2, g3, g4, g5⟩ := e5 hn1
    have c1 : (rCd (cE o (oI xs.head?) (rDp (F v false z) - 1) (F v false z))).length = (rCd (F v false z)).length + 1 := by
      show (_ ++ [_]).length = _
      rw [List.length_append]; rfl
    have c2 : rFm (cE o (oI xs.head?) (rDp (F v false z) - 1) (F v false z)) = rFm (F v false z) := rfl
    have c3 : rDp (cE o (oI xs.head?) (rDp (F v false z) - 1) (F v false z)) = rDp (F v false z) - 1 := rfl
    rw [c1, c2] at k4
    rw [c1] at k5
    rw [c3] at k1 k2
    rw [c2] at k3
    refine ⟨k0, ?_, ?_, ?_, ?_, ?_⟩
    · show rDp (cUt F la o (w :: l) _ _) = _; omega
    · show _ ≤ rDx (cUt F la o (w :: l) _ _); omega
    · show _ < rFm (cUt F la o (w :: l) _ _); omega
    · show (rCd (cUt F la o (w :: l) _ _)).length + 2 ≤ _ + 5 * (rFm (cUt F la o (w :: l) _ _) - _); omega
    · show _ < (rCd (cUt F la o (w :: l) _ _)).length; omega
theorem gd_app3 {α : Type} {l t : List α} {i : Nat} {x : α} (h : l.length ≤ i) : (l ++ t).getD i x = t.getD (i - l.length) x := by
  rw [List.getD_eq_getElem?_getD, List.getD_eq_getElem?_getD, List.getElem?_append_right h]
/-- bindings come into the scope -/
def Bdg (k : Nat) (z z' : CR) : Prop := ∃ t, rSc z' = rSc z ++ t ∧ t.length = k ∧ (∀ e, e ∈ t → e.2.2 = rBd z) ∧ z'.2.1.2 = z.2.1.2 ∧ KI z'.2.1
theorem bp_e : ∀ (ps : List Nat) (d : Nat) (z : CR), KI z.2.1 → Bdg ps.length z (cBp N ps d z) ∧ (cBp N ps d z).1 = z.1 ∧ (cBp N ps d z).2.2 = z.2.2
  | [], d, z, hk => ⟨⟨[], (List.append_nil _).symm, rfl, fun e he => (by cases he), rfl, hk⟩, rfl, rfl⟩
  | p :: ps, d, z, hk => by
    obtain ⟨⟨t, a1, a2, a3, a4, a5⟩, a6, a7⟩ := bp_e ps (d + 1) (cBi (nCn N (prt N p 0)) d z) (ki_bi hk)
    refine ⟨⟨(nCn N (prt N p 0), d, rBd z) :: t, ?_, by rw [List.length_cons, a2, List.length_cons], fun e he => ?_, a4, a5⟩, a6, a7⟩
    · refine a1.trans ?_
      show (rSc z ++ [_]) ++ t = _
      rw [List.append_assoc]; rfl
    · rcases List.mem_cons.mp he with rfl | he
      · rfl
      · exact a3 e he
theorem bn_e {a : Nat} : ∀ (ns : List Nat) (b : List Nat) (i : Nat) (z : CR), KI z.2.1 → Bdg ns.length z (cBn N ns b i z) ∧ Ef a a z (cBn N ns b i z) ∧ (cBn N ns b i z).1 = z.1 ∧ (cBn N ns b i z).2.2.1 = z.2.2.1
  | [], b, i, z, hk => ⟨⟨[], (List.append_nil _).symm, rfl, fun e he => (by cases he), rfl, hk⟩, ef_rf, rfl, rfl⟩
  | p :: ns, b, i, z, hk => by
    obtain ⟨c1, c2, c3, c4, c5, c6⟩ := ck_e (N := N) (z := z) (b := b) (n := p) (a := a)
    have hk1 : KI (cCk N b p z).2.1 := by rw [c1]; exact hk
    obtain ⟨⟨t, a1, a2, a3, a4, a5⟩, a6, a7, a8⟩ := bn_e (a := a) ns (b ++ [nCn N p]) (i + 1) (cBi (nCn N p) i (cCk N b p z)) (ki_bi hk1)
    have cs : rSc (cCk N b p z) = rSc z := by unfold rSc; rw [c1]
    have cb : rBd (cCk N b p z) = rBd z := by unfold rBd; rw [c1]
    have ckk : (cCk N b p z).1 = z.1 ∧ (cCk N b p z).2.2.1 = z.2.2.1 := by
      unfold cCk
      split
      · exact ⟨rfl, rfl⟩
      · exact ⟨rfl, rfl⟩
    refine ⟨⟨(nCn N p, i, rBd z) :: t, ?_, by rw [List.length_cons, a2, List.length_cons], fun e he => ?_, ?_, a5⟩, ef_tr (ef_tr c2 ef_Bi (Nat.le_of_eq cb.symm)) a6 (Nat.le_of_eq cb.symm), a7.trans ckk.1, a8.trans ckk.2⟩
    · refine a1.trans ?_
      show (rSc (cCk N b p z) ++ [(nCn N p, i, rBd (cCk N b p z))]) ++ t = _
      rw [List.append_assoc, cs, cb]; rfl
    · rcases List.mem_cons.mp he with rfl | he
      · rfl
      · exact (a3 e he).trans cb
    · refine a4.trans ?_
      show (cCk N b p z).2.1.2 = _
      rw [c1]
/-- and go out of it again -/
theorem un_k {k : Nat} {z z1 z2 : CR} (h : Bdg k z z1) (h1 : rSc z2 = rSc z1) (h2 : rBd z2 = rBd z1) (hk : KI z2.2.1) : rSc (cUn (rSc z).length z2) = rSc z ∧ KI (cUn (rSc z).length z2).2.1 := by
  obtain ⟨t, a1, a2, a3, a4, a5⟩ := h
  refine ⟨?_, ?_⟩
  · show (rSc z2).take (rSc z).length = _
    rw [h1, a1, List.take_left']
    rfl
  · refine ki_un hk (fun i hi1 hi2 => ?_)
    have hb : rBd z1 = rBd z := congrArg Prod.fst a4
    show ((rSc z2).getD i (0, 0, 0)).2.2 = rBd z2
    have hi2 : i < (rSc z2).length := hi2
    rw [h1, a1] at hi2 ⊢
    rw [gd_app3 hi1, h2, hb]
    rw [List.length_append] at hi2
    have hj : i - (rSc z).length < t.length := by omega
    rw [List.getD_eq_getElem?_getD, List.getElem?_eq_getElem hj]
    exact a3 _ (List.getElem_mem hj)
end CPF
