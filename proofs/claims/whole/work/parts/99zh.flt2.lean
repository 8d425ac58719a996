/-! BUILD. Faults: names that are bound, values, choices -/
/-- pairs in their order: a name, then a value -/
def PSq (g : Nat) (N : NS) : List Nat → Nat → Nat → Prop
  | [], a, b => a ≤ b
  | p :: ps, a, b => a ≤ prt N p 0 ∧ prt N p 0 < prt N p 1 ∧ nK N (prt N p 0) = 5 ∧ ∃ m, Trb g N (prt N p 1) m ∧ prt N p 1 < m ∧ m ≤ b ∧ PSq g N ps m b
/-- faults of the names, one after the other -/
def bw (N : NS) : List Nat → List Nat → Option (Nat × Nat) → Option (Nat × Nat)
  | [], _, w => w
  | n :: l, bf, w => bw N l (bf ++ [nCn N n]) (if 30 ≤ nCn N n ∧ nCn N n ∉ bf then w else wMn w 5 (nQ N n))
section FL2
variable {N : NS} {mt : List Nat} {z z1 z2 z' : CR} {y y1 y2 y' : MR} {n b g a m : Nat} {S : Shp} {la : Bool}
variable {F : Nat → Bool → CR → CR} {Fm : Nat → MR → MR}
theorem psq_le : ∀ (ps : List Nat) (a b : Nat), PSq g N ps a b → a ≤ b
  | [], _, _, h => h
  | p :: ps, a, b, h => by
    obtain ⟨h1, h2, _, m, _, h3, h4, _⟩ := h
    omega
theorem psq_wk {a' : Nat} : ∀ (ps : List Nat), PSq g N ps a b → a' ≤ a → PSq g N ps a' b
  | [], h, h1 => Nat.le_trans h1 h
  | _ :: _, h, h1 => ⟨Nat.le_trans h1 h.1, h.2⟩
theorem psq_v : ∀ (ps : List Nat) (a b : Nat), PSq g N ps a b → Sqn g N (vls N ps) a b
  | [], _, _, h => h
  | p :: ps, a, b, h => by
    obtain ⟨h1, h2, _, m, h3, h4, h5, h6⟩ := h
    exact ⟨by show a ≤ prt N p 1; omega, m, h3, h4, h5, psq_v ps m b h6⟩
theorem psq_n : ∀ (ps : List Nat) (a b : Nat), PSq g N ps a b → Prw N ps a b
  | [], _, _, _ => fun p hp => by cases hp
  | p :: ps, a, b, h => fun q hq => by
    obtain ⟨h1, h2, _, m, h3, h4, h5, h6⟩ := h
    rcases List.mem_cons.mp hq with rfl | hq
    · omega
    · have := psq_n ps m b h6 q hq
      omega
theorem leaf_tr {i : Nat} (h : nK N i = 5) : Tr 1 N i (i + 1) := Or.inl ⟨by rw [h]; decide, rfl⟩
theorem ck_flt {bf : List Nat} (hn : rFl z = none) : (rFl (cCk N bf n z) = none ∧ cCk N bf n z = z ∧ 30 ≤ nCn N n ∧ nCn N n ∉ bf) ∨ (rFl (cCk N bf n z) = some (5, nQ N n) ∧ ¬ (30 ≤ nCn N n ∧ nCn N n ∉ bf)) := by
  unfold cCk
  by_cases c : 30 ≤ nCn N n ∧ nCn N n ∉ bf
  · rw [if_pos c]; exact Or.inl ⟨hn, rfl, c⟩
  · rw [if_neg c]
    exact Or.inr ⟨if_pos hn, c⟩
/-- the values of a let -/
theorem lt_flt (pl : Plo N) (hN : N.1 < 2000000000) (hF : CFs N g F) (hM : MFs N g Fm) (hS : SFs N mt g F Fm) (hX : FFs N g F Fm) : ∀ (ps bf : List Nat) (a b : Nat) (S : Shp) (z : CR) (y : MR), PSq g N ps a b → 1 ≤ a → b ≤ N.1 → KI z.2.1 → SRp S z y → rFl z = none → FO N a b (cLt N F ps bf z) y (mLt N Fm false ps bf y)
  | [], bf, a, b, S, z, y, hs, ha, hb, hk, hP, hn => fun k p h => by
    have h : rFl z = some (k, p) := h
    rw [hn] at h; cases h
  | p :: ps, bf, a, b, S, z, y, hs, ha, hb, hk, hP, hn => by
    obtain ⟨h1, h2, h3, m, h4, h5, h6, h7⟩ := hs
    have hsq := psq_v ps m b h7
    have hpn := psq_n ps m b h7
    obtain ⟨c1, c2, _⟩ := ck_e (N := N) (z := z) (b := bf) (n := prt N p 0) (a := a)
    have E0 := hF (prt N p 1) m false (cCk N bf (prt N p 0) z) h4 (by rw [c1]; exact hk)
    have E2 := lt_e hF ps (bf ++ [nCn N (prt N p 0)]) m b _ hsq E0.2.2.1
    show FO N a b (cLt N F ps (bf ++ [nCn N (prt N p 0)]) (F (prt N p 1) false (cCk N bf (prt N p 0) z))) y (mLt N Fm false ps (bf ++ [nCn N (prt N p 0)]) (Fm (prt N p 1) (mBp N bf (prt N p 0) y)))
    rcases ck_flt (N := N) (n := prt N p 0) (bf := bf) hn with ⟨e1, e2, e3, e4⟩ | ⟨e1, e2⟩
    · have e5 : mBp N bf (prt N p 0) y = y := if_neg (fun h => h.elim (fun h => by omega) e4)
      rw [e2] at E0 E2 ⊢
      rw [e5]
      have M1 := hM (prt N p 1) m y h4 (by omega) hP.1.2.2.2.1
      have f1 := hX (prt N p 1) m false S z y h4 (by omega) (by omega) hk hP hn
      by_cases c : rFl (F (prt N p 1) false z) = none
      · have so := hS (prt N p 1) m false S z y h4 (by omega) (by omega) hk hP c
        have X1 := xo_so E0 M1 so c
        have hA1 := xo_a hP X1
        have hD1 := srd_n hP.2.1 E0.1 E0.2.1 hP.1 M1 (E0.2.2.2.2 c).1
        exact fo_snd X1.2.2.2.2.2.2 (lt_flt pl hN hF hM hS hX ps _ m b (S ++ [none]) _ _ h7 (by omega) hb E0.2.2.1 ⟨hA1, hD1, X1.2.2.2.2.1, X1.2.2.2.1.1, X1.2.2.2.1.2⟩ c) (by omega)
      · have M2 := lt_m hM (rec := false) (a0 := m) (b0 := b) ps (bf ++ [nCn N (prt N p 0)]) m b (Fm (prt N p 1) y) hsq (Nat.le_refl _) (Nat.le_refl _) (by omega) hpn (ai_ef M1 hP.1.2.2.2.1)
        exact fo_wk (fo_fst pl hN h4.1 (by omega) h6 hb f1 c (E2.2.2.2.1.1 c) M2) (by omega) (Nat.le_refl _)
    · have hne : rFl (cCk N bf (prt N p 0) z) ≠ none := by rw [e1]; simp
      have f0 : FO N (prt N p 0) (prt N p 0 + 1) (cCk N bf (prt N p 0) z) y (mBp N bf (prt N p 0) y) := fun k q h => by
        rw [e1] at h
        injection h with h
        injection h with h8 h9
        subst h8
        subst h9
        refine ⟨?_, prt N p 0, Nat.le_refl _, Nat.lt_succ_self _, rfl⟩
        have : mBp N bf (prt N p 0) y = mW 5 (nQ N (prt N p 0)) y := if_pos (by
          by_cases c : nCn N (prt N p 0) < 30
          · exact Or.inl c
          · exact Or.inr (Classical.byContradiction fun c2 => e2 ⟨by omega, c2⟩))
        rw [this]
        rfl
      have ai0 : AI (mBp N bf (prt N p 0) y) := ai_ef (bp_m (N := N) (a := prt N p 0) (b := prt N p 0 + 1) ⟨Nat.le_refl _, Nat.lt_succ_self _⟩) hP.1.2.2.2.1
      have M1 := hM (prt N p 1) m (mBp N bf (prt N p 0) y) h4 (by omega) ai0
      have M2 := lt_m hM (rec := false) (a0 := m) (b0 := b) ps (bf ++ [nCn N (prt N p 0)]) m b (Fm (prt N p 1) (mBp N bf (prt N p 0) y)) hsq (Nat.le_refl _) (Nat.le_refl _) (by omega) hpn (ai_ef M1 ai0)
      have M3 := mef_tr (mef_wk (a' := prt N p 0 + 1) (b' := b) M1 (by omega) h6) (mef_wk M2 (by omega) (Nat.le_refl _))
      have efl : rFl (cLt N F ps (bf ++ [nCn N (prt N p 0)]) (F (prt N p 1) false (cCk N bf (prt N p 0) z))) = rFl (cCk N bf (prt N p 0) z) := by
        have q1 := E0.2.2.2.1.1 hne
        rw [E2.2.2.2.1.1 (by rw [q1]; exact hne), q1]
      exact fo_wk (fo_fst pl hN (leaf_tr h3) (by omega) (by omega) hb f0 hne efl M3) (by omega) (Nat.le_refl _)
theorem bw_lt : ∀ (l bf : List Nat) (w : Option (Nat × Nat)) (k q : Nat), (∀ n, n ∈ l → q < nQ N n) → wMn (bw N l bf w) k q = wMn w k q
  | [], _, _, _, _, _ => rfl
  | n :: l, bf, w, k, q, h => by
    rw [bw, bw_lt l _ _ k q (fun x hx => h x (List.mem_cons_of_mem _ hx))]
    split
    · rfl
    · exact wmn_lt (h n (by simp))
theorem bw_keep : ∀ (l bf : List Nat) (w : Option (Nat × Nat)) (k p : Nat), (∀ n, n ∈ l → p < nQ N n) → bw N l bf (wMn w k p) = wMn w k p
  | [], _, _, _, _, _ => rfl
  | n :: l, bf, w, k, p, h => by
    rw [bw]
    have e : (if 30 ≤ nCn N n ∧ nCn N n ∉ bf then wMn w k p else wMn (wMn w k p) 5 (nQ N n)) = wMn w k p := by
      split
      · rfl
      · obtain ⟨k0, p0, e1, e2⟩ := wmn_some w k p
        rw [e1]
        unfold wMn
        dsimp only
        rw [if_pos (Or.inl (by have := h n (by simp); omega))]
    rw [e]
    exact bw_keep l _ w k p (fun x hx => h x (List.mem_cons_of_mem _ hx))
theorem bi_bw {w : Nat} : ∀ (ns bf : List Nat) (y : MR), ((mSg y).drop w).map (·.1) = bf → w ≤ (mSg y).length → mWr (mBi N w ns y) = bw N ns bf (mWr y)
  | [], _, _, _, _ => rfl
  | n :: ns, bf, y, hw, hl => by
    have e : mBs N n w y = y ∧ (30 ≤ nCn N n ∧ nCn N n ∉ bf) ∨ mBs N n w y = mW 5 (nQ N n) y ∧ ¬ (30 ≤ nCn N n ∧ nCn N n ∉ bf) := by
      unfold mBs
      rw [hw]
      by_cases c : nCn N n < 30 ∨ nCn N n ∈ bf
      · rw [if_pos c]
        exact Or.inr ⟨rfl, fun h => c.elim (fun c => by omega) h.2⟩
      · rw [if_neg c]
        exact Or.inl ⟨rfl, by omega, fun h => c (Or.inr h)⟩
    have sg : mSg (mBs N n w y) = mSg y := by
      rcases e with ⟨e, _⟩ | ⟨e, _⟩ <;> rw [e] <;> rfl
    show mWr (mBi N w ns (mIn (nCn N n) (mBs N n w y))) = _
    rw [bi_bw ns (bf ++ [nCn N n]) (mIn (nCn N n) (mBs N n w y)) ?_ ?_, bw]
    · congr 1
      show mWr (mBs N n w y) = _
      rcases e with ⟨e, c⟩ | ⟨e, c⟩
      · rw [e, if_pos c]
      · rw [e, if_neg c]; rfl
    · show ((mSg (mBs N n w y) ++ [((nCn N n, mAr (mBs N n w y) (mLv (mBs N n w y)), mSl (mBs N n w y) (mLv (mBs N n w y))) : SGe)]).drop w).map (·.1) = _
      rw [sg, List.drop_append_of_le_length hl, List.map_append, hw]
      rfl
    · show w ≤ (mSg (mBs N n w y) ++ [_]).length
      rw [sg, List.length_append]
      omega
/-- the values of a letrec: faults of names not come to yet are in the reference's already -/
theorem lr_flt (pl : Plo N) (hN : N.1 < 2000000000) (hF : CFs N g F) (hM : MFs N g Fm) (hS : SFs N mt g F Fm) (hX : FFs N g F Fm) : ∀ (ps bf : List Nat) (d a b : Nat) (S : Shp) (z : CR) (y : MR) (w : Option (Nat × Nat)), PSq g N ps a b → 1 ≤ a → b ≤ N.1 → KI z.2.1 → SRp S z y → rFl z = none → mWr y = bw N (nms N ps) bf w → (∀ k p, rFl (cLr N F ps bf d z) = some (k, p) → mWr (mBo Fm (vls N ps) y) = wMn w k p ∧ ∃ i, a ≤ i ∧ i < b ∧ p = nQ N i) ∧ (rFl (cLr N F ps bf d z) = none → mWr y = w)
  | [], bf, d, a, b, S, z, y, w, hs, ha, hb, hk, hP, hn, hw => ⟨fun k p h => (by
    have h : rFl z = some (k, p) := h
    rw [hn] at h
    cases h), fun _ => hw⟩
  | p :: ps, bf, d, a, b, S, z, y, w, hs, ha, hb, hk, hP, hn, hw => by
    obtain ⟨h1, h2, h3, m, h4, h5, h6, h7⟩ := hs
    have hsq := psq_v ps m b h7
    have hpn := psq_n ps m b h7
    have hnb : ∀ x, x ∈ nms N ps → m ≤ x ∧ x < b := fun x hx => by
      obtain ⟨q, hq1, rfl⟩ := List.mem_map.mp hx
      exact hpn q hq1
    obtain ⟨c1, c2, _⟩ := ck_e (N := N) (z := z) (b := bf) (n := prt N p 0) (a := a)
    have E0 := hF (prt N p 1) m false (cCk N bf (prt N p 0) z) h4 (by rw [c1]; exact hk)
    have E2 := lr_e hF ps (bf ++ [nCn N (prt N p 0)]) (d + 1) m b (cE 23 (nI d) (rDp (F (prt N p 1) false (cCk N bf (prt N p 0) z)) - 1) (F (prt N p 1) false (cCk N bf (prt N p 0) z))) hsq E0.2.2.1
    have M1 := hM (prt N p 1) m y h4 (by omega) hP.1.2.2.2.1
    have M2 := bo_m hM (vls N ps) m b (Fm (prt N p 1) y) hsq (by omega) (ai_ef M1 hP.1.2.2.2.1)
    have ez : cLr N F (p :: ps) bf d z = cLr N F ps (bf ++ [nCn N (prt N p 0)]) (d + 1) (cE 23 (nI d) (rDp (F (prt N p 1) false (cCk N bf (prt N p 0) z)) - 1) (F (prt N p 1) false (cCk N bf (prt N p 0) z))) := rfl
    have hw' : mWr y = bw N (nms N ps) (bf ++ [nCn N (prt N p 0)]) (if 30 ≤ nCn N (prt N p 0) ∧ nCn N (prt N p 0) ∉ bf then w else wMn w 5 (nQ N (prt N p 0))) := hw
    rw [ez]
    show (∀ k q, _ → mWr (mBo Fm (vls N ps) (Fm (prt N p 1) y)) = _ ∧ _) ∧ _
    rcases ck_flt (N := N) (n := prt N p 0) (bf := bf) hn with ⟨e1, e2, e3, e4⟩ | ⟨e1, e2⟩
    · rw [if_pos ⟨e3, e4⟩] at hw'
      rw [e2] at E0 E2 ⊢
      have f1 := hX (prt N p 1) m false S z y h4 (by omega) (by omega) hk hP hn
      by_cases c : rFl (F (prt N p 1) false z) = none
      · have so := hS (prt N p 1) m false S z y h4 (by omega) (by omega) hk hP c
        have X1 := xo_so E0 M1 so c
        have hA1 := xo_a hP X1
        have hD1 := srd_n hP.2.1 E0.1 E0.2.1 hP.1 M1 (E0.2.2.2.2 c).1
        have hP2 : SRp S (cE 23 (nI d) (rDp (F (prt N p 1) false z) - 1) (F (prt N p 1) false z)) (Fm (prt N p 1) y) := ⟨hA1, srd_d hD1 rfl rfl rfl rfl, sre_same X1.2.2.2.2.1 rfl rfl rfl rfl rfl, X1.2.2.2.1.1, X1.2.2.2.1.2⟩
        have ih := lr_flt pl hN hF hM hS hX ps (bf ++ [nCn N (prt N p 0)]) (d + 1) m b S (cE 23 (nI d) (rDp (F (prt N p 1) false z) - 1) (F (prt N p 1) false z)) (Fm (prt N p 1) y) w h7 (by omega) hb E0.2.2.1 hP2 c (by rw [X1.2.2.2.2.2.2]; exact hw')
        refine ⟨fun k q h => ?_, fun h => ?_⟩
        · obtain ⟨x1, i, x2, x3, x4⟩ := ih.1 k q h
          exact ⟨x1, i, by omega, x3, x4⟩
        · rw [← X1.2.2.2.2.2.2]
          exact ih.2 h
      · have efl := E2.2.2.2.1.1 c
        refine ⟨fun k q h => ?_, fun h => ?_⟩
        · rw [efl] at h
          obtain ⟨x1, i, x2, x3, x4⟩ := f1 k q h
          have hpl : ∀ j, m ≤ j → j < b → q < nQ N j := fun j hj1 hj2 => by
            rw [x4]
            exact pl_lt pl h4.1 (by omega) (by omega) hN x2 x3 hj1 (by omega)
          rw [hw', bw_lt _ _ _ _ _ (fun x hx => hpl x (hnb x hx).1 (hnb x hx).2)] at x1
          exact ⟨wr_keep M2 x1 hpl, i, by omega, by omega, x4⟩
        · rw [efl] at h
          exact absurd h c
    · rw [if_neg e2] at hw'
      have hne : rFl (cCk N bf (prt N p 0) z) ≠ none := by rw [e1]; simp
      have q1 := E0.2.2.2.1.1 hne
      have efl := E2.2.2.2.1.1 (by show rFl (F (prt N p 1) false (cCk N bf (prt N p 0) z)) ≠ none; rw [q1]; exact hne)
      have hpl : ∀ j, prt N p 0 + 1 ≤ j → j < b → nQ N (prt N p 0) < nQ N j := fun j hj1 hj2 => pl_lt pl (leaf_tr h3) (by omega) (by omega) hN (Nat.le_refl _) (Nat.lt_succ_self _) hj1 (by omega)
      rw [bw_keep _ _ _ _ _ (fun x hx => hpl x (by have := (hnb x hx).1; omega) (hnb x hx).2)] at hw'
      refine ⟨fun k q h => ?_, fun h => ?_⟩
      · rw [efl] at h
        have h : rFl (F (prt N p 1) false (cCk N bf (prt N p 0) z)) = some (k, q) := h
        rw [q1, e1] at h
        injection h with h
        injection h with h8 h9
        subst h8
        subst h9
        have M3 := mef_tr (mef_wk (a' := prt N p 0 + 1) (b' := b) M1 (by omega) h6) (mef_wk M2 (by omega) (Nat.le_refl _))
        exact ⟨wr_keep M3 hw' hpl, prt N p 0, h1, by omega, rfl⟩
      · rw [efl] at h
        have h : rFl (F (prt N p 1) false (cCk N bf (prt N p 0) z)) = none := h
        rw [q1] at h
        exact absurd h hne
end FL2
