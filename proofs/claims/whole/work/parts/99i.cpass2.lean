/-! BUILD. What compiling keeps, form by form -/
def OKe (a b : Nat) (z z' : CR) : Prop := (rCd z <+: rCd z' ∧ rDt z <+: rDt z' ∧ rLm z <+: rLm z' ∧ rSr z <+: rSr z') ∧ (∀ l, l ≤ rBd z → rKp z l <+: rKp z' l) ∧ rDx z ≤ rDx z' ∧ rFm z ≤ rFm z' ∧ rFm z' + a ≤ rFm z + b ∧ (rFm z ≤ 1500 → rFm z' ≤ 1500) ∧ (rDt z').length + 2 * a ≤ (rDt z).length + 2 * b
def Ef (a b : Nat) (z z' : CR) : Prop := (rFl z ≠ none → rFl z' = rFl z) ∧ (rFl z' = none → OKe a b z z')
def Trb (g : Nat) (N : NS) (v m : Nat) : Prop := Tr g N v m ∧ m < 2000000000
/-- nodes in their order, each a tree, between a and b -/
def Sqn (g : Nat) (N : NS) : List Nat → Nat → Nat → Prop
  | [], a, b => a ≤ b
  | v :: l, a, b => a ≤ v ∧ ∃ m, Trb g N v m ∧ v < m ∧ m ≤ b ∧ Sqn g N l m b
theorem seq_le {g : Nat} {N : NS} : ∀ (l : List Nat) (a b : Nat), Sqn g N l a b → a ≤ b
  | [], _, _, h => h
  | v :: l, a, b, h => by obtain ⟨h1, m, h2, h3, h4, _⟩ := h; omega
theorem seq_wk {g : Nat} {N : NS} {l : List Nat} {a a' b : Nat} (h : Sqn g N l a b) (ha : a' ≤ a) : Sqn g N l a' b := by
  cases l with
  | nil => exact Nat.le_trans ha h
  | cons v l => exact ⟨Nat.le_trans ha h.1, h.2⟩
section EFS
variable {a b m : Nat} {z z1 z2 : CR}
theorem oke_tr (h1 : OKe a m z z1) (h2 : OKe m b z1 z2) (hb : rBd z ≤ rBd z1) : OKe a b z z2 := by
  obtain ⟨⟨p1, p2, p3, p4⟩, p5, p6, p7, p8, p9, p10⟩ := h1
  obtain ⟨⟨q1, q2, q3, q4⟩, q5, q6, q7, q8, q9, q10⟩ := h2
  exact ⟨⟨p1.trans q1, p2.trans q2, p3.trans q3, p4.trans q4⟩, fun l hl => (p5 l hl).trans (q5 l (by omega)), by omega, by omega, by omega, fun h => q9 (p9 h), by omega⟩
theorem ef_no (h : Ef a b z z1) (hn : rFl z1 = none) : rFl z = none := Classical.byContradiction fun c => c ((h.1 c).symm.trans hn)
theorem ef_tr (h1 : Ef a m z z1) (h2 : Ef m b z1 z2) (hb : rBd z ≤ rBd z1) : Ef a b z z2 := by
  refine ⟨fun h => ?_, fun h => ?_⟩
  · have e1 := h1.1 h
    exact (h2.1 (by rw [e1]; exact h)).trans e1
  · exact oke_tr (h1.2 (ef_no h2 h)) (h2.2 h) hb
theorem oke_rf : OKe a a z z := ⟨⟨List.prefix_refl _, List.prefix_refl _, List.prefix_refl _, List.prefix_refl _⟩, fun _ _ => List.prefix_refl _, Nat.le_refl _, Nat.le_refl _, by omega, fun h => h, by omega⟩
theorem oke_wk {a' b' : Nat} (h : OKe a b z z1) (h1 : a' ≤ a) (h2 : b ≤ b') : OKe a' b' z z1 := by
  obtain ⟨p1, p5, p6, p7, p8, p9, p10⟩ := h
  exact ⟨p1, p5, p6, p7, by omega, p9, by omega⟩
theorem ef_wk {a' b' : Nat} (h : Ef a b z z1) (h1 : a' ≤ a) (h2 : b ≤ b') : Ef a' b' z z1 := ⟨h.1, fun e => oke_wk (h.2 e) h1 h2⟩
theorem ef_rf : Ef a a z z := ⟨fun _ => rfl, fun _ => oke_rf⟩
/-- nothing but the depth, the scope's bindings and operations behind the others has changed -/
theorem ef_same (h1 : rFl z1 = rFl z) (h2 : rCd z <+: rCd z1) (h3 : z1.1.2 = z.1.2) (h4 : ∀ l, l ≤ rBd z → rKp z1 l = rKp z l) (h5 : rDx z ≤ rDx z1) (h6 : rFm z1 = rFm z) : Ef a a z z1 := by
  refine ⟨fun _ => h1, fun _ => ⟨⟨h2, ?_, ?_, ?_⟩, fun l hl => ?_, h5, Nat.le_of_eq h6.symm, by omega, fun h => by omega, ?_⟩⟩
  · unfold rDt; rw [h3]; exact List.prefix_refl _
  · unfold rLm; rw [h3]; exact List.prefix_refl _
  · unfold rSr; rw [h3]; exact List.prefix_refl _
  · rw [h4 l hl]; exact List.prefix_refl _
  · unfold rDt; rw [h3]; exact Nat.le_refl _
theorem ef_E {o v : Int32} {dp : Nat} : Ef a a z (cE o v dp z) := ef_same rfl (List.prefix_append _ _) rfl (fun _ _ => rfl) (Nat.le_max_left _ _) rfl
theorem ef_Dp {dp : Nat} : Ef a a z (cDp dp z) := ef_same rfl (List.prefix_refl _) rfl (fun _ _ => rfl) (Nat.le_refl _) rfl
theorem ef_Bi {j s : Nat} : Ef a a z (cBi j s z) := ef_same rfl (List.prefix_refl _) rfl (fun _ _ => rfl) (Nat.le_refl _) rfl
theorem ef_Un {k : Nat} : Ef a a z (cUn k z) := ef_same rfl (List.prefix_refl _) rfl (fun _ _ => rfl) (Nat.le_refl _) rfl
theorem ef_Gb {la : Bool} : Ef a a z (cGb la z) := by
  unfold cGb
  split
  · exact ef_E
  · exact ef_rf
theorem tl_fl {k p : Nat} : rFl (cTl k p z) ≠ none := by
  show (if rFl z = none then some (k, p) else rFl z) ≠ none
  split
  · simp
  · assumption
theorem ef_Tl {k p : Nat} : Ef a a z (cTl k p z) := ⟨fun h => if_neg h, fun h => absurd h tl_fl⟩
theorem pf_set {α : Type} {l l' : List α} {x : Nat} {y : α} (h : l <+: l') (hx : l.length ≤ x) : l <+: l'.set x y := by
  obtain ⟨t, rfl⟩ := h
  rw [List.set_append_right _ _ hx]
  exact List.prefix_append _ _
theorem cd_Ld {x : Nat} : (rCd (cLd x z)).length = (rCd z).length := List.length_set
/-- a jump that came later than z lands -/
theorem ef_Ld {x : Nat} (h : Ef a b z z1) (hx : rFl z1 = none → (rCd z).length ≤ x) : Ef a b z (cLd x z1) := by
  refine ⟨h.1, fun hn => ?_⟩
  obtain ⟨⟨p1, p2, p3, p4⟩, p5⟩ := h.2 hn
  exact ⟨⟨pf_set p1 (hx hn), p2, p3, p4⟩, p5⟩
theorem ef_Kp {i : Nat} : Ef a a z (cKp i z) := by
  refine ⟨fun _ => rfl, fun _ => ⟨⟨List.prefix_refl _, List.prefix_refl _, List.prefix_refl _, List.prefix_refl _⟩, fun l hl => ?_, Nat.le_refl _, Nat.le_refl _, by show rFm z + a ≤ _; omega, fun h => h, Nat.le_refl _⟩⟩
  show _ <+: (if _ then _ else _)
  split
  · exact List.prefix_append _ _
  · exact List.prefix_refl _
end EFS
section CPS
variable {N : NS} {mt : List Nat} {z : CR}
theorem ef_Ct {n : Nat} : Ef n (n + 1) z (cCt N n z) ∧ (cCt N n z).2.1 = z.2.1 ∧ rDp (cCt N n z) = rDp z ∧ rCd (cCt N n z) = rCd z ∧ rFm (cCt N n z) = rFm z + 1 ∧ (rFl (cCt N n z) = none → rFm z + 1 ≤ 1500) := by
  unfold cCt
  by_cases c : 1500 < rFm z + 1
  · rw [if_pos c]
    exact ⟨⟨fun h => if_neg h, fun h => absurd h tl_fl⟩, rfl, rfl, rfl, rfl, fun h => absurd h tl_fl⟩
  · rw [if_neg c]
    exact ⟨⟨fun _ => rfl, fun _ => ⟨⟨List.prefix_refl _, List.prefix_refl _, List.prefix_refl _, List.prefix_refl _⟩, fun _ _ => List.prefix_refl _, Nat.le_refl _, Nat.le_succ _, by show rFm z + 1 + n ≤ rFm z + (n + 1); omega, fun _ => by show rFm z + 1 ≤ 1500; omega, by show (rDt z).length + 2 * n ≤ (rDt z).length + 2 * (n + 1); omega⟩⟩, rfl, rfl, rfl, rfl, fun _ => by omega⟩
/-- what one form does -/
def CFe (a b : Nat) (z z' : CR) : Prop := rSc z' = rSc z ∧ rBd z' = rBd z ∧ KI z'.2.1 ∧ Ef a b z z' ∧ (rFl z' = none → rDp z' = rDp z + 1 ∧ rDp z + 1 ≤ rDx z' ∧ rFm z < rFm z' ∧ (rCd z').length + 2 ≤ (rCd z).length + 5 * (rFm z' - rFm z) ∧ (rCd z).length < (rCd z').length)
def CFs (N : NS) (g : Nat) (F : Nat → Bool → CR → CR) : Prop := ∀ v m la z, Trb g N v m → KI z.2.1 → CFe v m z (F v la z)
variable {g : Nat} {F : Nat → Bool → CR → CR}
theorem bo_e (hF : CFs N g F) {la : Bool} : ∀ (l : List Nat) (a b : Nat) (z : CR), l ≠ [] → Sqn g N l a b → KI z.2.1 → CFe a b z (cBo F la l z)
  | [], _, _, _, h, _, _ => absurd rfl h
  | [v], a, b, z, _, hs, hk => by
    obtain ⟨h1, m, h2, h3, h4, h5⟩ := hs
    obtain ⟨e1, e2, e3, e4, e5⟩ := hF v m la z h2 hk
    exact ⟨e1, e2, e3, ef_wk e4 h1 h4, e5⟩
  | v :: w :: l, a, b, z, _, hs, hk => by
    obtain ⟨h1, m, h2, h3, h4, h5⟩ := hs
    obtain ⟨e1, e2, e3, e4, e5⟩ := hF v m false z h2 hk
    have ih := bo_e hF (la := la) (w :: l) m b (cE 30 0 (rDp (F v false z) - 1) (F v false z)) (by simp) h5 e3
    obtain ⟨f1, f2, f3, f4, f5⟩ := ih
    have E := ef_tr (ef_tr (ef_wk e4 h1 (Nat.le_refl _)) (ef_E (o := 30) (v := 0) (dp := rDp (F v false z) - 1)) (Nat.le_of_eq e2.symm)) f4 (Nat.le_of_eq e2.symm)
    refine ⟨f1.trans e1, f2.trans e2, f3, E, fun hn => ?_⟩
    have hn1 := ef_no f4 hn
    obtain ⟨g1, g2, g3, g4, g5⟩ := e5 hn1
    obtain ⟨k1, k2, k3, k4, k5⟩ := f5 hn
    have c1 : (rCd (cE 30 0 (rDp (F v false z) - 1) (F v false z))).length = (rCd (F v false z)).length + 1 := by
      show (_ ++ [_]).length = _
      rw [List.length_append]; rfl
    have c2 : rFm (cE 30 0 (rDp (F v false z) - 1) (F v false z)) = rFm (F v false z) := rfl
    have c3 : rDp (cE 30 0 (rDp (F v false z) - 1) (F v false z)) = rDp (F v false z) - 1 := rfl
    rw [c1, c2] at k4
    rw [c1] at k5
    rw [c3] at k1 k2
    rw [c2] at k3
    show rDp (cBo F la (w :: l) (cE 30 0 (rDp (F v false z) - 1) (F v false z))) = _ ∧ _ ≤ rDx (cBo F la (w :: l) (cE 30 0 (rDp (F v false z) - 1) (F v false z))) ∧ _ < rFm (cBo F la (w :: l) (cE 30 0 (rDp (F v false z) - 1) (F v false z))) ∧ (rCd (cBo F la (w :: l) (cE 30 0 (rDp (F v false z) - 1) (F v false z)))).length + 2 ≤ _ + 5 * (rFm (cBo F la (w :: l) (cE 30 0 (rDp (F v false z) - 1) (F v false z))) - _) ∧ _ < (rCd (cBo F la (w :: l) (cE 30 0 (rDp (F v false z) - 1) (F v false z)))).length
    refine ⟨by omega, by omega, by omega, by omega, by omega⟩
/-- what a row of forms does, and how deep it leaves the stack -/
def CSe (a b k : Nat) (z z' : CR) : Prop := rSc z' = rSc z ∧ rBd z' = rBd z ∧ KI z'.2.1 ∧ Ef a b z z' ∧ (rFl z' = none → rDp z' = rDp z + k ∧ rFm z ≤ rFm z' ∧ (rCd z').length ≤ (rCd z).length + 5 * (rFm z' - rFm z) ∧ (rCd z).length ≤ (rCd z').length ∧ rDp z + k ≤ max (rDp z) (rDx z'))
theorem cl_e (hF : CFs N g F) : ∀ (l : List Nat) (a b : Nat) (z : CR), Sqn g N l a b → KI z.2.1 → CSe a b l.length z (l.foldl (fun z a => F a false z) z)
  | [], a, b, z, hs, hk => ⟨rfl, rfl, hk, ef_wk (ef_rf (a := a)) (Nat.le_refl _) hs, fun _ => ⟨rfl, Nat.le_refl _, by show (rCd z).length ≤ _ + 5 * (rFm z - rFm z); omega, Nat.le_refl _, Nat.le_max_left _ _⟩⟩
  | v :: l, a, b, z, hs, hk => by
    obtain ⟨h1, m, h2, h3, h4, h5⟩ := hs
    obtain ⟨e1, e2, e3, e4, e5⟩ := hF v m false z h2 hk
    obtain ⟨f1, f2, f3, f4, f5⟩ := cl_e hF l m b (F v false z) h5 e3
    rw [List.foldl_cons]
    refine ⟨f1.trans e1, f2.trans e2, f3, ef_tr (ef_wk e4 h1 (Nat.le_refl _)) f4 (Nat.le_of_eq e2.symm), fun hn => ?_⟩
    have hn1 : rFl (F v false z) = none := ef_no f4 hn
    obtain ⟨g1, g2, g3, g4, g5⟩ := e5 hn1
    obtain ⟨k1, k2, k3, k4, k5⟩ := f5 hn
    have hx := (f4.2 hn).2.2.1
    rw [List.length_cons]
    refine ⟨by omega, by omega, by omega, by omega, by omega⟩
theorem ck_e {b : List Nat} {n a : Nat} : (cCk N b n z).2.1 = z.2.1 ∧ Ef a a z (cCk N b n z) ∧ rDp (cCk N b n z) = rDp z ∧ rCd (cCk N b n z) = rCd z ∧ rFm (cCk N b n z) = rFm z ∧ rDx (cCk N b n z) = rDx z := by
  unfold cCk
  split
  · exact ⟨rfl, ef_rf, rfl, rfl, rfl, rfl⟩
  · exact ⟨rfl, ef_Tl, rfl, rfl, rfl, rfl⟩
/-- the pairs of a let, their values in their order -/
def vls (N : NS) (ps : List Nat) : List Nat := ps.map (fun p => prt N p 1)
theorem lt_e (hF : CFs N g F) : ∀ (ps : List Nat) (bf : List Nat) (a b : Nat) (z : CR), Sqn g N (vls N ps) a b → KI z.2.1 → CSe a b ps.length z (cLt N F ps bf z)
  | [], bf, a, b, z, hs, hk => ⟨rfl, rfl, hk, ef_wk (ef_rf (a := a)) (Nat.le_refl _) hs, fun _ => ⟨rfl, Nat.le_refl _, by show (rCd z).length ≤ (rCd z).length + 5 * (rFm z - rFm z); omega, Nat.le_refl _, Nat.le_max_left _ _⟩⟩
  | p :: ps, bf, a, b, z, hs, hk => by
    obtain ⟨h1, m, h2, h3, h4, h5⟩ := hs
    obtain ⟨c1, c2, c3, c4, c5, c6⟩ := ck_e (N := N) (z := z) (b := bf) (n := prt N p 0) (a := a)
    obtain ⟨e1, e2, e3, e4, e5⟩ := hF (prt N p 1) m false (cCk N bf (prt N p 0) z) h2 (by rw [c1]; exact hk)
    obtain ⟨f1, f2, f3, f4, f5⟩ := lt_e hF ps (bf ++ [nCn N (prt N p 0)]) m b _ h5 e3
    have cs : rSc (cCk N bf (prt N p 0) z) = rSc z := by unfold rSc; rw [c1]
    have cb : rBd (cCk N bf (prt N p 0) z) = rBd z := by unfold rBd; rw [c1]
    refine ⟨f1.trans (e1.trans cs), f2.trans (e2.trans cb), f3, ef_tr (ef_tr c2 (ef_wk e4 h1 (Nat.le_refl _)) (Nat.le_of_eq cb.symm)) f4 (by omega), fun hn => ?_⟩
    have hn1 := ef_no f4 hn
    obtain ⟨g1, g2, g3, g4, g5⟩ := e5 hn1
    obtain ⟨k1, k2, k3, k4, k5⟩ := f5 hn
    have hx := (f4.2 hn).2.2.1
    rw [c3] at g1 g2
    rw [c4] at g4 g5
    rw [c5] at g3 g4
    rw [List.length_cons]
    show rDp (cLt N F ps _ _) = _ ∧ _ ≤ rFm (cLt N F ps _ _) ∧ (rCd (cLt N F ps _ _)).length ≤ _ + 5 * (rFm (cLt N F ps _ _) - _) ∧ _ ≤ (rCd (cLt N F ps _ _)).length ∧ _ ≤ max _ (rDx (cLt N F ps _ _))
    refine ⟨by omega, by omega, by omega, by omega, by omega⟩
theorem lr_e (hF : CFs N g F) : ∀ (ps : List Nat) (bf : List Nat) (d a b : Nat) (z : CR), Sqn g N (vls N ps) a b → KI z.2.1 → CSe a b 0 z (cLr N F ps bf d z)
  | [], bf, d, a, b, z, hs, hk => ⟨rfl, rfl, hk, ef_wk (ef_rf (a := a)) (Nat.le_refl _) hs, fun _ => ⟨rfl, Nat.le_refl _, by show (rCd z).length ≤ (rCd z).length + 5 * (rFm z - rFm z); omega, Nat.le_refl _, Nat.le_max_left _ _⟩⟩
  | p :: ps, bf, d, a, b, z, hs, hk => by
    obtain ⟨h1, m, h2, h3, h4, h5⟩ := hs
    obtain ⟨c1, c2, c3, c4, c5, c6⟩ := ck_e (N := N) (z := z) (b := bf) (n := prt N p 0) (a := a)
    obtain ⟨e1, e2, e3, e4, e5⟩ := hF (prt N p 1) m false (cCk N bf (prt N p 0) z) h2 (by rw [c1]; exact hk)
    obtain ⟨f1, f2, f3, f4, f5⟩ := lr_e hF ps (bf ++ [nCn N (prt N p 0)]) (d + 1) m b (cE 23 (nI d) (rDp (F (prt N p 1) false (cCk N bf (prt N p 0) z)) - 1) (F (prt N p 1) false (cCk N bf (prt N p 0) z))) h5 e3
    have cs : rSc (cCk N bf (prt N p 0) z) = rSc z := by unfold rSc; rw [c1]
    have cb : rBd (cCk N bf (prt N p 0) z) = rBd z := by unfold rBd; rw [c1]
    have E1 := ef_tr (ef_tr c2 (ef_wk e4 h1 (Nat.le_refl _)) (Nat.le_of_eq cb.symm)) (ef_E (o := 23) (v := nI d) (dp := rDp (F (prt N p 1) false (cCk N bf (prt N p 0) z)) - 1)) (by omega)
    have x1 : (rCd (cE 23 (nI d) (rDp (F (prt N p 1) false (cCk N bf (prt N p 0) z)) - 1) (F (prt N p 1) false (cCk N bf (prt N p 0) z)))).length = (rCd (F (prt N p 1) false (cCk N bf (prt N p 0) z))).length + 1 := by
      show (_ ++ [_]).length = _
      rw [List.length_append]; rfl
    have x2 : rFm (cE 23 (nI d) (rDp (F (prt N p 1) false (cCk N bf (prt N p 0) z)) - 1) (F (prt N p 1) false (cCk N bf (prt N p 0) z))) = rFm (F (prt N p 1) false (cCk N bf (prt N p 0) z)) := rfl
    have x3 : rDp (cE 23 (nI d) (rDp (F (prt N p 1) false (cCk N bf (prt N p 0) z)) - 1) (F (prt N p 1) false (cCk N bf (prt N p 0) z))) = rDp (F (prt N p 1) false (cCk N bf (prt N p 0) z)) - 1 := rfl
    refine ⟨f1.trans (e1.trans cs), f2.trans (e2.trans cb), f3, ef_tr E1 f4 (by show _ ≤ rBd (F (prt N p 1) false (cCk N bf (prt N p 0) z)); omega), fun hn => ?_⟩
    have hn1 := ef_no f4 hn
    obtain ⟨g1, g2, g3, g4, g5⟩ := e5 hn1
    obtain ⟨k1, k2, k3, k4, k5⟩ := f5 hn
    rw [c3] at g1 g2
    rw [c4] at g4 g5
    rw [c5] at g3 g4
    rw [x1] at k3 k4
    rw [x2] at k2 k3
    rw [x3] at k1
    show rDp (cLr N F ps _ _ _) = _ ∧ _ ≤ rFm (cLr N F ps _ _ _) ∧ (rCd (cLr N F ps _ _ _)).length ≤ _ + 5 * (rFm (cLr N F ps _ _ _) - _) ∧ _ ≤ (rCd (cLr N F ps _ _ _)).length ∧ _ ≤ max _ (rDx (cLr N F ps _ _ _))
    refine ⟨by omega, by omega, by omega, by omega, by omega⟩
end CPS
