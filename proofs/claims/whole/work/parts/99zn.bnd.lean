/-! BUILD. How deep the stack goes, how much lambdas keep -/
def DBe (D : Nat) (z z' : CR) : Prop := rFl z' = none → rDx z' ≤ max (rDx z) D ∧ (rLm z').length ≤ max (rLm z).length 120 ∧ ∀ (j : Nat) (e : LMe), (rLm z).length ≤ j → (rLm z')[j]? = some e → e.2.2.1 ≤ 300 ∧ e.2.2.2.2.length ≤ 250
def DFs (N : NS) (g : Nat) (F : Nat → Bool → CR → CR) : Prop := ∀ v m la z D, Trb g N v m → KI z.2.1 → (rSc z).length + 8 * g ≤ 250 → (rFl z = none → rDp z + 9 * g ≤ D) → D ≤ 300 → DBe D z (F v la z)
section DEP
variable {N : NS} {mt : List Nat} {z z1 z2 z' : CR} {a b g m D n : Nat} {la : Bool} {F : Nat → Bool → CR → CR}
theorem dbe_tr (h1 : DBe D z z1) (h2 : DBe D z1 z2) (E2 : Ef m b z1 z2) : DBe D z z2 := fun hn => by
  have hn1 := ef_no E2 hn
  obtain ⟨p1, p2, p3⟩ := h1 hn1
  obtain ⟨q1, q2, q3⟩ := h2 hn
  have pf : rLm z1 <+: rLm z2 := (E2.2 hn).1.2.2.1
  have pl := pf.length_le
  refine ⟨by omega, by omega, fun j e hj he => ?_⟩
  by_cases c : j < (rLm z1).length
  · rw [pf_ge pf c] at he
    exact p3 j e hj he
  · exact q3 j e (by omega) he
theorem dbe_same (h1 : rDx z1 ≤ max (rDx z) D) (h2 : rLm z1 = rLm z) : DBe D z z1 := fun _ => ⟨h1, by rw [h2]; omega, fun j e hj he => by
  rw [h2] at he
  have := g_lt he
  omega⟩
theorem dbe_rf : DBe D z z := dbe_same (by omega) rfl
theorem dbe_E {o v : Int32} {dp : Nat} (h : rFl z = none → dp ≤ D) : DBe D z (cE o v dp z) := fun hn => dbe_same (z1 := cE o v dp z) (by rw [dx_E]; have := h hn; omega) rfl hn
theorem dbe_cg (h : DBe D z z1) (e1 : rFl z2 = rFl z1) (e2 : rDx z2 = rDx z1) (e3 : rLm z2 = rLm z1) : DBe D z z2 := fun hn => by
  rw [e1] at hn
  rw [e2, e3]
  exact h hn
theorem dbe_cl (h : DBe D z1 z') (e2 : rDx z1 = rDx z) (e3 : rLm z1 = rLm z) : DBe D z z' := fun hn => by
  have := h hn
  rw [e2, e3] at this
  exact this
theorem dbe_gb (h : DBe D z z1) (hd : rFl z1 = none → rDp z1 ≤ D) : DBe D z (cGb la z1) := by
  unfold cGb
  split
  · exact dbe_tr h (dbe_E hd) (ef_E (a := 0))
  · exact h
theorem bo_d (hF : CFs N g F) (hD : DFs N g F) (hg : 1 ≤ g) : ∀ (l : List Nat) (a b : Nat) (z : CR), Sqn g N l a b → KI z.2.1 → (rSc z).length + 8 * g ≤ 250 → (rFl z = none → rDp z + 9 * g ≤ D) → D ≤ 300 → DBe D z (cBo F la l z)
  | [], _, _, _, _, _, _, _, _ => dbe_rf
  | [v], a, b, z, hs, hk, h1, h2, h3 => by
    obtain ⟨_, m, q2, _, _, _⟩ := hs
    exact hD v m la z D q2 hk h1 h2 h3
  | v :: w :: l, a, b, z, hs, hk, h1, h2, h3 => by
    obtain ⟨_, m, q2, _, _, q5⟩ := hs
    have E1 := hF v m false z q2 hk
    have E2 := bo_e hF (la := la) (w :: l) m b (cE 30 0 (rDp (F v false z) - 1) (F v false z)) (by simp) q5 E1.2.2.1
    have hdp : rFl (F v false z) = none → rDp (F v false z) = rDp z + 1 ∧ rFl z = none := fun c => ⟨(E1.2.2.2.2 c).1, ef_no E1.2.2.2.1 c⟩
    refine dbe_tr (dbe_tr (hD v m false z D q2 hk h1 h2 h3) (dbe_E (fun c => ?_)) (ef_E (a := 0))) (bo_d hF hD hg (w :: l) m b (cE 30 0 (rDp (F v false z) - 1) (F v false z)) q5 E1.2.2.1 (by show (rSc (F v false z)).length + _ ≤ _; rw [E1.1]; exact h1) (fun c => ?_) h3) E2.2.2.2.1
    · obtain ⟨q, r⟩ := hdp c
      have := h2 r
      omega
    · obtain ⟨q, r⟩ := hdp c
      have := h2 r
      show rDp (F v false z) - 1 + _ ≤ _
      omega
theorem cl_d (hF : CFs N g F) (hD : DFs N g F) : ∀ (l : List Nat) (a b : Nat) (z : CR), Sqn g N l a b → KI z.2.1 → (rSc z).length + 8 * g ≤ 250 → (rFl z = none → rDp z + l.length + 9 * g ≤ D) → D ≤ 300 → DBe D z (l.foldl (fun z a => F a false z) z)
  | [], _, _, _, _, _, _, _, _ => dbe_rf
  | v :: l, a, b, z, hs, hk, h1, h2, h3 => by
    obtain ⟨_, m, q2, _, _, q5⟩ := hs
    have E1 := hF v m false z q2 hk
    have E2 := cl_e hF l m b (F v false z) q5 E1.2.2.1
    rw [List.length_cons] at h2
    exact dbe_tr (hD v m false z D q2 hk h1 (fun c => by have := h2 c; omega) h3) (cl_d hF hD l m b (F v false z) q5 E1.2.2.1 (by rw [E1.1]; exact h1) (fun c => by have q := (E1.2.2.2.2 c).1; have := h2 (ef_no E1.2.2.2.1 c); omega) h3) E2.2.2.2.1
theorem lt_d (hF : CFs N g F) (hD : DFs N g F) : ∀ (ps bf : List Nat) (a b : Nat) (z : CR), Sqn g N (vls N ps) a b → KI z.2.1 → (rSc z).length + 8 * g ≤ 250 → (rFl z = none → rDp z + ps.length + 9 * g ≤ D) → D ≤ 300 → DBe D z (cLt N F ps bf z)
  | [], _, _, _, _, _, _, _, _, _ => dbe_rf
  | p :: ps, bf, a, b, z, hs, hk, h1, h2, h3 => by
    obtain ⟨_, m, q2, _, _, q5⟩ := hs
    obtain ⟨c1, c2, c3, c4, c5, c6⟩ := ck_e (N := N) (z := z) (b := bf) (n := prt N p 0) (a := a)
    have hkc : KI (cCk N bf (prt N p 0) z).2.1 := by rw [c1]; exact hk
    have E1 := hF (prt N p 1) m false (cCk N bf (prt N p 0) z) q2 hkc
    have E2 := lt_e hF ps (bf ++ [nCn N (prt N p 0)]) m b _ q5 E1.2.2.1
    have sc0 : rSc (cCk N bf (prt N p 0) z) = rSc z := (s_of c1).1
    have lm0 : rLm (cCk N bf (prt N p 0) z) = rLm z := by
      unfold cCk
      split <;> rfl
    rw [List.length_cons] at h2
    refine dbe_cl ?_ c6 lm0
    exact dbe_tr (hD (prt N p 1) m false _ D q2 hkc (by rw [sc0]; exact h1) (fun c => by rw [c3]; have := h2 (ef_no c2 c); omega) h3) (lt_d hF hD ps (bf ++ [nCn N (prt N p 0)]) m b _ q5 E1.2.2.1 (by rw [E1.1, sc0]; exact h1) (fun c => by
      have q := (E1.2.2.2.2 c).1
      have := h2 (ef_no c2 (ef_no E1.2.2.2.1 c))
      rw [c3] at q
      omega) h3) E2.2.2.2.1
theorem lr_d (hF : CFs N g F) (hD : DFs N g F) (hg : 1 ≤ g) : ∀ (ps bf : List Nat) (d a b : Nat) (z : CR), Sqn g N (vls N ps) a b → KI z.2.1 → (rSc z).length + 8 * g ≤ 250 → (rFl z = none → rDp z + 9 * g ≤ D) → D ≤ 300 → DBe D z (cLr N F ps bf d z)
  | [], _, _, _, _, _, _, _, _, _, _ => dbe_rf
  | p :: ps, bf, d, a, b, z, hs, hk, h1, h2, h3 => by
    obtain ⟨_, m, q2, _, _, q5⟩ := hs
    obtain ⟨c1, c2, c3, c4, c5, c6⟩ := ck_e (N := N) (z := z) (b := bf) (n := prt N p 0) (a := a)
    have hkc : KI (cCk N bf (prt N p 0) z).2.1 := by rw [c1]; exact hk
    have E1 := hF (prt N p 1) m false (cCk N bf (prt N p 0) z) q2 hkc
    have E2 := lr_e hF ps (bf ++ [nCn N (prt N p 0)]) (d + 1) m b (cE 23 (nI d) (rDp (F (prt N p 1) false (cCk N bf (prt N p 0) z)) - 1) (F (prt N p 1) false (cCk N bf (prt N p 0) z))) q5 E1.2.2.1
    have sc0 : rSc (cCk N bf (prt N p 0) z) = rSc z := (s_of c1).1
    have lm0 : rLm (cCk N bf (prt N p 0) z) = rLm z := by
      unfold cCk
      split <;> rfl
    have hdp : rFl (F (prt N p 1) false (cCk N bf (prt N p 0) z)) = none → rDp (F (prt N p 1) false (cCk N bf (prt N p 0) z)) = rDp z + 1 ∧ rDp z + 9 * g ≤ D := fun c => by
      have q := (E1.2.2.2.2 c).1
      rw [c3] at q
      exact ⟨q, h2 (ef_no c2 (ef_no E1.2.2.2.1 c))⟩
    refine dbe_cl ?_ c6 lm0
    refine dbe_tr (dbe_tr (hD (prt N p 1) m false _ D q2 hkc (by rw [sc0]; exact h1) (fun c => by rw [c3]; exact h2 (ef_no c2 c)) h3) (dbe_E (fun c => ?_)) (ef_E (a := 0))) (lr_d hF hD hg ps (bf ++ [nCn N (prt N p 0)]) (d + 1) m b (cE 23 (nI d) (rDp (F (prt N p 1) false (cCk N bf (prt N p 0) z)) - 1) (F (prt N p 1) false (cCk N bf (prt N p 0) z))) q5 E1.2.2.1 (by show (rSc (F (prt N p 1) false (cCk N bf (prt N p 0) z))).length + _ ≤ _; rw [E1.1, sc0]; exact h1) (fun c => ?_) h3) E2.2.2.2.1
    · obtain ⟨q, r⟩ := hdp c
      omega
    · obtain ⟨q, r⟩ := hdp c
      show rDp (F (prt N p 1) false (cCk N bf (prt N p 0) z)) - 1 + _ ≤ _
      omega
theorem ut_d {o : Int32} (hF : CFs N g F) (hD : DFs N g F) (hg : 1 ≤ g) : ∀ (l xs : List Nat) (a b : Nat) (z : CR), l ≠ [] → Sqn g N l a b → KI z.2.1 → (rSc z).length + 8 * g ≤ 250 → (rFl z = none → rDp z + 9 * g ≤ D) → D ≤ 300 → DBe D z (cU0 F la o l xs z).1 ∧ Ef a b z (cU0 F la o l xs z).1
  | [], _, _, _, _, h, _, _, _, _, _ => absurd rfl h
  | [v], xs, a, b, z, _, hs, hk, h1, h2, h3 => by
    obtain ⟨q1, m, q2, _, q4, _⟩ := hs
    exact ⟨hD v m la z D q2 hk h1 h2 h3, ef_wk (hF v m la z q2 hk).2.2.2.1 q1 q4⟩
  | v :: w :: l, xs, a, b, z, _, hs, hk, h1, h2, h3 => by
    obtain ⟨q1, m, q2, _, q4, q5⟩ := hs
    have E1 := hF v m false z q2 hk
    have hdp : rFl (F v false z) = none → rDp (F v false z) = rDp z + 1 ∧ rFl z = none := fun c => ⟨(E1.2.2.2.2 c).1, ef_no E1.2.2.2.1 c⟩
    obtain ⟨i1, i2⟩ := ut_d (o := o) hF hD hg (w :: l) ((rCd (F v false z)).length :: xs) m b (cE o (oI xs.head?) (rDp (F v false z) - 1) (F v false z)) (by simp) q5 E1.2.2.1 (by show (rSc (F v false z)).length + _ ≤ _; rw [E1.1]; exact h1) (fun c => by
      obtain ⟨q, r⟩ := hdp c
      have := h2 r
      show rDp (F v false z) - 1 + _ ≤ _
      omega) h3
    refine ⟨dbe_tr (dbe_tr (hD v m false z D q2 hk h1 h2 h3) (dbe_E (fun c => ?_)) (ef_E (a := 0))) i1 i2, ef_tr (ef_tr (ef_wk E1.2.2.2.1 q1 (Nat.le_refl _)) ef_E (Nat.le_of_eq E1.2.1.symm)) i2 (by show rBd z ≤ rBd (F v false z); rw [E1.2.1]; exact Nat.le_refl _)⟩
    obtain ⟨q, r⟩ := hdp c
    have := h2 r
    omega
end DEP
