/-! BUILD. The two compilers against each other: values of pairs, choices -/
section SM7
variable {N : NS} {mt : List Nat} {z z1 z2 z' : CR} {y y1 y2 y' : MR} {n b g a m n1 b1 : Nat} {G : PG} {S : Shp} {la : Bool}
variable {F : Nat → Bool → CR → CR} {Fm : Nat → MR → MR}
theorem ck_id {bf : List Nat} (h : rFl (cCk N bf n z) = none) : cCk N bf n z = z ∧ 30 ≤ nCn N n ∧ nCn N n ∉ bf := by
  unfold cCk at h ⊢
  by_cases c : 30 ≤ nCn N n ∧ nCn N n ∉ bf
  · rw [if_pos c]; exact ⟨rfl, c⟩
  · rw [if_neg c] at h; exact absurd h tl_fl
/-- the names of a row are no words, and none stands twice -/
def Nmo (N : NS) : List Nat → List Nat → Prop
  | [], _ => True
  | x :: l, bf => 30 ≤ nCn N x ∧ nCn N x ∉ bf ∧ Nmo N l (bf ++ [nCn N x])
def nms (N : NS) (ps : List Nat) : List Nat := ps.map (fun p => prt N p 0)
theorem lt_eq (hF : CFs N g F) : ∀ (ps bf : List Nat) (a b : Nat) (z : CR) (y : MR), Sqn g N (vls N ps) a b → KI z.2.1 → rFl (cLt N F ps bf z) = none → cLt N F ps bf z = (vls N ps).foldl (fun z a => F a false z) z ∧ mLt N Fm false ps bf y = mBo Fm (vls N ps) y ∧ Nmo N (nms N ps) bf
  | [], _, _, _, _, _, _, _, _ => ⟨rfl, rfl, trivial⟩
  | p :: ps, bf, a, b, z, y, hs, hk, hn => by
    obtain ⟨h1, m, h2, h3, h4, h5⟩ := hs
    obtain ⟨c1, c2, _⟩ := ck_e (N := N) (z := z) (b := bf) (n := prt N p 0) (a := a)
    have E1 := hF (prt N p 1) m false (cCk N bf (prt N p 0) z) h2 (by rw [c1]; exact hk)
    have E2 := lt_e hF ps (bf ++ [nCn N (prt N p 0)]) m b _ h5 E1.2.2.1
    have hn1 := ef_no E2.2.2.2.1 hn
    have hn0 := ef_no E1.2.2.2.1 hn1
    obtain ⟨e1, e2, e3⟩ := ck_id hn0
    have hn' : rFl (cLt N F ps (bf ++ [nCn N (prt N p 0)]) (F (prt N p 1) false z)) = none := by
      have : cLt N F (p :: ps) bf z = cLt N F ps (bf ++ [nCn N (prt N p 0)]) (F (prt N p 1) false (cCk N bf (prt N p 0) z)) := rfl
      rw [this, e1] at hn
      exact hn
    have E1' := hF (prt N p 1) m false z h2 hk
    have e4 : mBp N bf (prt N p 0) y = y := if_neg (fun h => h.elim (fun h => by omega) e3)
    obtain ⟨i1, i2, i3⟩ := lt_eq hF ps (bf ++ [nCn N (prt N p 0)]) m b (F (prt N p 1) false z) (Fm (prt N p 1) y) h5 E1'.2.2.1 hn'
    refine ⟨?_, ?_, e2, e3, i3⟩
    · show cLt N F ps (bf ++ [nCn N (prt N p 0)]) (F (prt N p 1) false (cCk N bf (prt N p 0) z)) = _
      rw [e1, i1]
      rfl
    · show mLt N Fm false ps (bf ++ [nCn N (prt N p 0)]) (Fm (prt N p 1) (mBp N bf (prt N p 0) y)) = _
      rw [e4, i2]
      rfl
theorem lt_rec : ∀ (ps bf : List Nat) (y : MR), mLt N Fm true ps bf y = mBo Fm (vls N ps) y
  | [], _, _ => rfl
  | p :: ps, bf, y => by
    show mLt N Fm true ps (bf ++ [nCn N (prt N p 0)]) (Fm (prt N p 1) y) = _
    rw [lt_rec ps]
    rfl
/-- the values of a letrec -/
theorem lr_sim (hF : CFs N g F) (hM : MFs N g Fm) (hS : SFs N mt g F Fm) : ∀ (ps bf : List Nat) (d a b : Nat) (S : Shp) (z : CR) (y : MR), Sqn g N (vls N ps) a b → 1 ≤ a → b ≤ N.1 → KI z.2.1 → SRp S z y → rFl (cLr N F ps bf d z) = none →
    XO N a b z (cLr N F ps bf d z) y (mBo Fm (vls N ps) y) ∧ SRd S (cLr N F ps bf d z) (mBo Fm (vls N ps) y) ∧ Nmo N (nms N ps) bf ∧ ∀ G, GS N mt G → HG G z (cLr N F ps bf d z) y (mBo Fm (vls N ps) y) a b → Lrs G (fun v pc e => Cod G (mAr y (mLv y)) g v false S pc e) ((vls N ps).map (· - 1)) d (rCd z).length (rCd (cLr N F ps bf d z)).length ∧ ∀ M, mLa y < M → M ≤ mLa (mBo Fm (vls N ps) y) → WGM G M
  | [], bf, d, a, b, S, z, y, hs, ha, hb, hk, hP, hn => ⟨xo_wk (xo_rf (a := a) hk hP) (Nat.le_refl _) hs, hP.2.1, trivial, fun G gs H => ⟨rfl, fun M h1 h2 => absurd h2 (Nat.not_le.mpr h1)⟩⟩
  | p :: ps, bf, d, a, b, S, z, y, hs, ha, hb, hk, hP, hn => by
    obtain ⟨h1, m, h2, h3, h4, h5⟩ := hs
    have h1 : a ≤ prt N p 1 := h1
    have h3 : prt N p 1 < m := h3
    obtain ⟨c1, c2, _⟩ := ck_e (N := N) (z := z) (b := bf) (n := prt N p 0) (a := a)
    have E0 := hF (prt N p 1) m false (cCk N bf (prt N p 0) z) h2 (by rw [c1]; exact hk)
    have E2 := lr_e hF ps (bf ++ [nCn N (prt N p 0)]) (d + 1) m b (cE 23 (nI d) (rDp (F (prt N p 1) false (cCk N bf (prt N p 0) z)) - 1) (F (prt N p 1) false (cCk N bf (prt N p 0) z))) h5 E0.2.2.1
    have hn1 : rFl (F (prt N p 1) false (cCk N bf (prt N p 0) z)) = none := ef_no (z := cE 23 (nI d) (rDp (F (prt N p 1) false (cCk N bf (prt N p 0) z)) - 1) (F (prt N p 1) false (cCk N bf (prt N p 0) z))) E2.2.2.2.1 hn
    have hn0 := ef_no E0.2.2.2.1 hn1
    obtain ⟨e1, e2, e3⟩ := ck_id hn0
    have ez : cLr N F (p :: ps) bf d z = cLr N F ps (bf ++ [nCn N (prt N p 0)]) (d + 1) (cE 23 (nI d) (rDp (F (prt N p 1) false z) - 1) (F (prt N p 1) false z)) := by
      show cLr N F ps (bf ++ [nCn N (prt N p 0)]) (d + 1) (cE 23 (nI d) (rDp (F (prt N p 1) false (cCk N bf (prt N p 0) z)) - 1) (F (prt N p 1) false (cCk N bf (prt N p 0) z))) = _
      rw [e1]
    rw [e1] at hn1
    rw [ez] at hn ⊢
    have E1 := hF (prt N p 1) m false z h2 hk
    have M1 := hM (prt N p 1) m y h2 (by omega) hP.1.2.2.2.1
    have so := hS (prt N p 1) m false S z y h2 (by omega) (by omega) hk hP hn1
    have X1 := xo_so E1 M1 so hn1
    have hA1 := xo_a hP X1
    have hD1 := srd_n hP.2.1 E1.1 E1.2.1 hP.1 M1 (E1.2.2.2.2 hn1).1
    have hP1 : SRp (S ++ [none]) (F (prt N p 1) false z) (Fm (prt N p 1) y) := ⟨hA1, hD1, X1.2.2.2.2.1, X1.2.2.2.1.1, X1.2.2.2.1.2⟩
    have hP2 : SRp S (cE 23 (nI d) (rDp (F (prt N p 1) false z) - 1) (F (prt N p 1) false z)) (Fm (prt N p 1) y) := ⟨hA1, srd_d hD1 rfl rfl rfl rfl, sre_same X1.2.2.2.2.1 rfl rfl rfl rfl rfl, X1.2.2.2.1.1, X1.2.2.2.1.2⟩
    obtain ⟨X2, D2, N2, G2⟩ := lr_sim hF hM hS ps (bf ++ [nCn N (prt N p 0)]) (d + 1) m b S (cE 23 (nI d) (rDp (F (prt N p 1) false z) - 1) (F (prt N p 1) false z)) (Fm (prt N p 1) y) h5 (by omega) hb E1.2.2.1 hP2 hn
    have X1' : XO N a m z (F (prt N p 1) false z) y (Fm (prt N p 1) y) := xo_wk X1 h1 (Nat.le_refl _)
    have X1e : XO N a m z (cE 23 (nI d) (rDp (F (prt N p 1) false z) - 1) (F (prt N p 1) false z)) y (Fm (prt N p 1) y) := xo_E X1'
    have Xm := xo_tr (xo_E (o := 23) (v := nI d) (dp := rDp (F (prt N p 1) false z) - 1) (xo_rf (N := N) (a := m) E1.2.2.1 hP1)) X2 (Nat.le_refl _) h4
    have hL : mAr (Fm (prt N p 1) y) (mLv (Fm (prt N p 1) y)) = mAr y (mLv y) := by rw [M1.1.2.1, M1.1.2.2.1 _ (Nat.le_refl _)]
    refine ⟨xo_tr X1e X2 (by omega) h4, D2, ⟨e2, e3, N2⟩, fun G gs H => ?_⟩
    have Hf := hg_fst H X1 Xm hP.1 h1 (by omega) h4
    have Hs := hg_snd H X1e X2 (by omega)
    obtain ⟨k1, k2⟩ := so.2.2.2.2 G gs Hf
    obtain ⟨d1, d2⟩ := G2 G gs Hs
    rw [hL, cd_E] at d1
    have hop := opz_at (z1 := F (prt N p 1) false z) (u := 23) (v := nI d) (dp := rDp (F (prt N p 1) false z) - 1) H (X1.1.1.1.length_le) X2.1.1.1 rfl
    refine ⟨⟨_, k1, hop.1, hop.2, d1⟩, fun M hM1 hM2 => ?_⟩
    by_cases c : M ≤ mLa (Fm (prt N p 1) y)
    · exact k2 M hM1 c
    · exact d2 M (by omega) hM2
end SM7
