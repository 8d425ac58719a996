/-! BUILD. What compiling keeps: data of quotes, and one form of any kind -/
section CPQ
variable {N : NS} {mt : List Nat} {z : CR}
theorem pf_app {α : Type} {l l' t : List α} (h : l <+: l') : l <+: l' ++ t := h.trans (List.prefix_append _ _)
theorem dml_e {F : Nat → List DTe → Int64 × List DTe} {R : Nat → Nat → Prop} {X : Nat → Int32} (hF : ∀ p m dt, R p m → dt <+: (F p dt).2 ∧ (F p dt).2.length + 2 * (p + 1) ≤ dt.length + 2 * m) : ∀ (l : List Nat) (a b s : Nat) (dt l0 : List DTe), Frs R X l a b → l0 <+: dt → l0.length ≤ s → l0 <+: cDmL F l s dt ∧ (cDmL F l s dt).length + 2 * (a + l.length) ≤ dt.length + 2 * b
  | [], a, b, s, dt, l0, h, hp, hs => ⟨hp, by have h : a = b := h; show dt.length + 2 * (a + 0) ≤ _; omega⟩
  | p :: l, a, b, s, dt, l0, h, hp, hs => by
    obtain ⟨rfl, m, h1, h2, h3, h4, h5⟩ := h
    obtain ⟨f1, f2⟩ := hF p m dt h1
    obtain ⟨g1, g2⟩ := dml_e hF l m b (s + 2) (dU (dU (F p dt).2 s (F p dt).1) (s + 1) (if l = [] then vof 4 0 else vof 6 (nI (s + 2)))) l0 h5 (pf_set (pf_set (hp.trans f1) hs) (by omega)) (by omega)
    refine ⟨g1, ?_⟩
    have dl : ∀ (l : List DTe) (s : Nat) (v : Int64), (dU l s v).length = l.length := fun l s v => List.length_set
    rw [dl, dl] at g2
    show (cDmL F l (s + 2) _).length + 2 * (p + (l.length + 1)) ≤ _
    omega
theorem dm_e : ∀ (f g n m : Nat) (dt : List DTe), Tr g N n m → g ≤ f → m < 2000000000 → dt <+: (cDm N mt f n dt).2 ∧ (cDm N mt f n dt).2.length + 2 * (n + 1) ≤ dt.length + 2 * m
  | 0, g, n, m, dt, h, hg, _ => by
    have : g = 0 := by omega
    subst this
    exact h.elim
  | f + 1, g, n, m, dt, h, hg, hm => by
    have hlt := tr_lt _ _ _ _ h
    unfold cDm
    split
    · exact ⟨List.prefix_refl _, by dsimp only; omega⟩
    · split
      · exact ⟨List.prefix_refl _, by dsimp only; omega⟩
      · rename_i c5 c6
        split
        · exact ⟨List.prefix_refl _, by dsimp only; omega⟩
        · have h6 : nK N n = 6 := Classical.byContradiction c6
          cases g with
          | zero => exact h.elim
          | succ g =>
            obtain ⟨a1, a2, a3⟩ := tr_pts h h6 hm
            have := dml_e (F := cDm N mt f) (R := fun u v => Tr g N u v ∧ v < 2000000000) (X := nX N) (fun p m' dt' hr => dm_e f g p m' dt' hr.1 (by omega) hr.2) (pts N n) (n + 1) m dt.length (dt ++ (n, none) :: List.replicate (2 * (pts N n).length - 1) (0, none)) dt (frs_cg _ _ _ a3 (fun u v hu hv hr => ⟨hr, by omega⟩) (fun _ _ _ => rfl)) (List.prefix_append _ _) (Nat.le_refl _)
            refine ⟨this.1, ?_⟩
            have h2 := this.2
            rw [List.length_append, List.length_cons, List.length_replicate] at h2
            have hpos : 0 < (pts N n).length := List.length_pos_iff.mpr (by assumption)
            dsimp only
            omega
theorem qt_e {f g n m a : Nat} {la : Bool} (h : Tr g N n m) (hg : g ≤ f) (hm : m < 2000000000) (ha : a ≤ n) (hk : KI z.2.1) : CGe a m z (cQt N mt f la n z) := by
  obtain ⟨d1, d2⟩ := dm_e (mt := mt) f g n m (rDt z) h hg hm
  unfold cQt
  generalize hz1 : cE (vkd (cDm N mt f n (rDt z)).1) (cDm N mt f n (rDt z)).1.toInt32 (rDp z + 1) (cDt (cDm N mt f n (rDt z)).2 z) = z1
  have s1 : z1.2.1 = z.2.1 := by rw [← hz1]; rfl
  have hlt := tr_lt _ _ _ _ h
  have E1 : Ef a m z z1 := by
    rw [← hz1]
    exact ⟨fun _ => rfl, fun _ => ⟨⟨List.prefix_append _ _, d1, List.prefix_refl _, List.prefix_refl _⟩, fun _ _ => List.prefix_refl _, Nat.le_max_left _ _, Nat.le_refl _, by show rFm z + a ≤ rFm z + m; omega, fun h => h, by show (cDm N mt f n (rDt z)).2.length + 2 * a ≤ _; omega⟩⟩
  obtain ⟨g1, g2, g3, g4, g5, g6, g7⟩ := gb_e (z := z1) (la := la)
  have e1 : rDp z1 = rDp z + 1 := by rw [← hz1]; rfl
  have e2 : rFm z1 = rFm z := by rw [← hz1]; rfl
  have e3 : (rCd z1).length = (rCd z).length + 1 := by rw [← hz1, cd_E]; rfl
  have e4 : rDp z + 1 ≤ rDx z1 := by rw [← hz1, dx_E]; omega
  refine ⟨(s_of g1).1.trans (s_of s1).1, (s_of g1).2.1.trans (s_of s1).2.1, by rw [g1, s1]; exact hk, ef_tr E1 (ef_Gb (a := m)) (Nat.le_of_eq (s_of s1).2.1.symm), fun hn => ?_⟩
  rw [g3, g4]
  refine ⟨e1, by omega, by omega, by omega, by omega⟩
/-- with the count -/
theorem cge_ct {n b : Nat} {z' : CR} (h : CGe (n + 1) b (cCt N n z) z') : CFe n b z z' := by
  obtain ⟨c1, c2, c3, c4, c5, c6⟩ := ef_Ct (N := N) (z := z) (n := n)
  obtain ⟨h1, h2, h3, h4, h5⟩ := h
  refine ⟨h1.trans (s_of c2).1, h2.trans (s_of c2).2.1, h3, ef_tr c1 h4 (Nat.le_of_eq (s_of c2).2.1.symm), fun hn => ?_⟩
  obtain ⟨k1, k2, k3, k4, k5⟩ := h5 hn
  rw [c3] at k1 k2
  rw [c5] at k3 k4
  rw [c4] at k4 k5
  refine ⟨k1, k2, by omega, by omega, by omega⟩
theorem shp_1 {n : Nat} {row : Bool} (h : shp N n 1 row = true) : (pts N n).length = 2 := by simpa [shp] using h
theorem shp_2 {n : Nat} {row : Bool} (h : shp N n 2 row = true) : 3 ≤ (pts N n).length ∧ arN N (prt N n 1) = true := by simpa [shp] using h
theorem shp_3 {n : Nat} {row : Bool} (h : shp N n 3 row = true) : (pts N n).length = 4 := by simpa [shp] using h
theorem shp_4 {n : Nat} {row : Bool} (h : shp N n 4 row = true) : 3 ≤ (pts N n).length ∧ arP N (prt N n 1) = true := by simpa [shp] using h
theorem shp_5 {n : Nat} {row : Bool} (h : shp N n 5 row = true) : 3 ≤ (pts N n).length ∧ arP N (prt N n 1) = true := by simpa [shp] using h
theorem shp_6 {n : Nat} {row : Bool} (h : shp N n 6 row = true) : (pts N n).length = 3 ∧ nK N (prt N n 1) = 5 := by simpa [shp] using h
theorem shp_10 {n : Nat} {row : Bool} (h : shp N n 10 row = true) : row = true ∧ (pts N n).length = 3 ∧ nK N (prt N n 1) = 5 := by
  simp [shp] at h
  exact ⟨h.1.1, h.1.2, h.2⟩
theorem shp_0 {n : Nat} {row : Bool} (h : shp N n 0 row = true) : 1 ≤ (pts N n).length ∧ (pts N n).length ≤ 9 := by simpa [shp] using h
theorem shp_7 {n w : Nat} {row : Bool} (h : shp N n w row = true) (hw : w = 7 ∨ w = 8 ∨ w = 9) : 2 ≤ (pts N n).length := by
  rcases hw with rfl | rfl | rfl <;> simpa [shp] using h
theorem wrd_le {n : Nat} : wrd N n ≤ 10 := by
  unfold wrd
  split
  · omega
  · split <;> omega
theorem dr_ne {l : List Nat} {k : Nat} (h : k < l.length) : l.drop k ≠ [] := fun e => by
  have := congrArg List.length e
  rw [List.length_drop] at this
  simp at this
  omega
theorem three_tr {g n b : Nat} (h : Tr (g + 1) N n b) (h6 : nK N n = 6) (hb : b < 2000000000) (h3 : (pts N n).length = 3) : ∃ m1, Tr g N (prt N n 2) b ∧ n + 1 < prt N n 1 ∧ prt N n 1 < m1 ∧ prt N n 2 = m1 ∧ pts N n = [n + 1, prt N n 1, prt N n 2] ∧ Tr g N (prt N n 1) m1 := by
  obtain ⟨a1, a2, a3⟩ := tr_pts h h6 hb
  match hp : pts N n, h3, a3 with
  | [x, y, w], _, a3 =>
    obtain ⟨b0, m1, b1, b2, b3, b4, c0, m2, c1, c2, c3, c4, d0, m3, d1, d2, d3, d4, d5⟩ := a3
    have d5 : m3 = b := d5
    subst d5 b0 c0 d0
    have e1 : prt N n 1 = y := by unfold prt; rw [hp]; rfl
    have e2 : prt N n 2 = w := by unfold prt; rw [hp]; rfl
    rw [e1, e2]
    exact ⟨w, d1, b2, c2, rfl, rfl, c1⟩
/-- every form keeps this -/
theorem cF_e : ∀ (f g : Nat), g ≤ f → f ≤ 40 → ∀ (n b : Nat) (la row : Bool) (z : CR), Tr g N n b → b < 2000000000 → KI z.2.1 → CFe n b z (cF N mt f n la row z)
  | 0, g, hg, _, n, b, la, row, z, h, _, _ => by
    have : g = 0 := by omega
    subst this
    exact h.elim
  | f + 1, 0, _, _, _, _, _, _, _, h, _, _ => h.elim
  | f + 1, g + 1, hg, hf, n, b, la, row, z, h, hb, hk => by
    have hlt := tr_lt _ _ _ _ h
    have hF : CFs N g (fun a la => cF N mt f a la false) := fun v m la z ht hk => cF_e f g (by omega) (by omega) v m la false z ht.1 ht.2 hk
    rw [cF]
    by_cases cf : rFl z ≠ none
    · rw [if_pos cf]
      exact ⟨rfl, rfl, hk, ef_wk (ef_rf (a := n)) (Nat.le_refl _) (by omega), fun hn => absurd hn cf⟩
    rw [if_neg cf]
    have leaf : ∀ {z1 : CR}, rSc z1 = rSc z → rBd z1 = rBd z → KI z1.2.1 → Ef n n z z1 → (rFl z1 = none → rDp z1 = rDp z + 1 ∧ rDp z + 1 ≤ rDx z1 ∧ rFm z1 = rFm z ∧ (rCd z1).length = (rCd z).length + 1) → CFe n b z (cGb la (cCt N n z1)) := fun {z1} h1 h2 h3 h4 h5 => by
      obtain ⟨c1, c2, c3, c4, c5, c6⟩ := ef_Ct (N := N) (z := z1) (n := n)
      obtain ⟨g1, g2, g3, g4, g5, g6, g7⟩ := gb_e (z := cCt N n z1) (la := la)
      have E := ef_tr (ef_tr h4 c1 (Nat.le_of_eq h2.symm)) (ef_Gb (a := n + 1) (la := la)) (by rw [(s_of c2).2.1, h2]; exact Nat.le_refl _)
      refine ⟨(s_of g1).1.trans ((s_of c2).1.trans h1), (s_of g1).2.1.trans ((s_of c2).2.1.trans h2), by rw [g1, c2]; exact h3, ef_wk E (Nat.le_refl _) (by omega), fun hn => ?_⟩
      rw [g2] at hn
      obtain ⟨k1, k2, k3, k4⟩ := h5 (ef_no c1 hn)
      have hx := (c1.2 hn).2.2.1
      rw [g3, g4, c3, c5]
      rw [c4] at g6 g7
      refine ⟨k1, by omega, by omega, by omega, by omega⟩
    have hkc : KI (cCt N n z).2.1 := by rw [(ef_Ct (N := N) (z := z) (n := n)).2.1]; exact hk
    by_cases c6 : nK N n = 6
    · rw [if_pos c6]
      by_cases cs : shp N n (wrd N n) row = false
      · rw [if_pos cs]
        exact ⟨rfl, rfl, hk, ef_wk (ef_Tl (a := n)) (Nat.le_refl _) (by omega), fun hn => absurd hn tl_fl⟩
      · rw [if_neg cs]
        have cs : shp N n (wrd N n) row = true := by simpa using cs
        have hsq := frs_sqn _ _ _ (tr_pts h c6 hb).2.2 hb
        have hw := wrd_le (N := N) (n := n)
        by_cases w3 : wrd N n = 3
        · rw [if_pos w3]
          rw [w3] at cs
          have hl := shp_3 cs
          refine cge_ct (if_e hF ?_ hkc)
          have e : (pts N n).drop 1 = [prt N n 1, prt N n 2, prt N n 3] := by
            unfold prt
            match hp : pts N n, hl with
            | [a, b, c, d], _ => rfl
          rw [← e]
          exact sqn_drop 1 _ _ _ hsq
        rw [if_neg w3]
        by_cases w4 : wrd N n = 4
        · rw [if_pos w4]
          rw [w4] at cs
          obtain ⟨l1, l2⟩ := shp_4 cs
          obtain ⟨m, q1, q2⟩ := let_sq h c6 hb l1 l2
          exact cge_ct (let_e hF q1 q2 (dr_ne (by omega)) hkc)
        rw [if_neg w4]
        by_cases w5 : wrd N n = 5
        · rw [if_pos w5]
          rw [w5] at cs
          obtain ⟨l1, l2⟩ := shp_5 cs
          obtain ⟨m, q1, q2⟩ := let_sq h c6 hb l1 l2
          exact cge_ct (lrc_e hF q1 q2 (dr_ne (by omega)) hkc)
        rw [if_neg w5]
        by_cases w7 : wrd N n = 7
        · rw [if_pos w7]
          have l1 := shp_7 cs (Or.inl w7)
          exact cge_ct (cge_of (bo_e hF _ _ _ _ (dr_ne (by omega)) (sqn_drop 1 _ _ _ hsq) hkc))
        rw [if_neg w7]
        by_cases w8 : wrd N n = 8
        · rw [if_pos w8]
          have l1 := shp_7 cs (Or.inr (Or.inl w8))
          exact cge_ct (un2_e hF (sqn_drop 1 _ _ _ hsq) (dr_ne (by omega)) hkc)
        rw [if_neg w8]
        by_cases w9 : wrd N n = 9
        · rw [if_pos w9]
          have l1 := shp_7 cs (Or.inr (Or.inr w9))
          exact cge_ct (un2_e hF (sqn_drop 1 _ _ _ hsq) (dr_ne (by omega)) hkc)
        rw [if_neg w9]
        by_cases w0 : wrd N n = 0
        · rw [if_pos w0]
          rw [w0] at cs
          obtain ⟨l1, l2⟩ := shp_0 cs
          exact cge_ct (call_e hF hsq (fun e => by rw [e] at l1; simp at l1) hkc)
        rw [if_neg w0]
        by_cases w2 : wrd N n = 2
        · rw [if_pos w2]
          rw [w2] at cs
          obtain ⟨l1, l2⟩ := shp_2 cs
          obtain ⟨m0, m1, e1, e2, e3, e4, e5, e6, e7, e8⟩ := big_tr h c6 hb (by omega)
          exact cge_ct (al_la hF (seq_wk e5 (by omega)) (dr_ne (by omega)) hkc)
        rw [if_neg w2]
        by_cases w1 : wrd N n = 1
        · rw [if_pos w1]
          rw [w1] at cs
          have l1 := shp_1 cs
          obtain ⟨g', eg, _, t1, t2, _⟩ := two_tr h l1 hb
          exact cge_ct (qt_e t1 (by omega) hb (by omega) hkc)
        rw [if_neg w1]
        by_cases w6 : wrd N n = 6
        · rw [if_pos w6]
          rw [w6] at cs
          obtain ⟨l1, l2⟩ := shp_6 cs
          obtain ⟨m1, t1, t2, t3, t4, _⟩ := three_tr h c6 hb l1
          exact cge_ct (st_e hF ⟨t1, hb⟩ (by omega) hkc)
        · rw [if_neg w6]
          have w10 : wrd N n = 10 := by omega
          rw [w10] at cs
          obtain ⟨l0, l1, l2⟩ := shp_10 cs
          obtain ⟨m1, t1, t2, t3, t4, _⟩ := three_tr h c6 hb l1
          exact cge_ct (df_e hF ⟨t1, hb⟩ (by omega) hkc)
    · rw [if_neg c6]
      by_cases c5 : nK N n = 5
      · rw [if_pos c5]
        obtain ⟨h1, h2, h3, h4, h5⟩ := cNm_e (N := N) (n := n) (a := n) hk
        exact leaf h1 h2 h3 h4 h5
      · rw [if_neg c5]
        exact leaf (z1 := cE (nK N n) (nC N n) (rDp z + 1) z) rfl rfl hk ef_E (fun _ => ⟨rfl, Nat.le_max_right _ _, rfl, cd_E⟩)
end CPQ
