/-! BUILD. The reference's build: text, tokens, tree, meanings -/
theorem aev_c {P : Prop} {d mi : Nat} {vs : List Value} {h : Hp} (hE : aEv d mi vs h (fun _ _ => P)) : P := by
  obtain ⟨_, _, _, _, hp⟩ := hE
  exact hp
section BLD
variable {h h' h0 : Hp} {Q : Option Value → Hp → Prop} {d n q : Nat} {t : Nat → Nat} {K K2 : List KY} {mt mt2 : List Nat} {N : NS} {stk : List SE} {r : Option (Nat × Nat)}
theorem ks_rf : KS q h h := ⟨⟨rfl, rfl, rfl, rfl, rfl, rfl, rfl, rfl⟩, fun _ _ _ => rfl, fun _ _ => rfl⟩
/-- every text is a row of tokens -/
theorem scn_ex (s : Sk h) (rm : Rm h) (yy : YY q h) (hn : n ≤ 3000) (ht : ∀ j, t j < 256) : ∃ T K mt, (∃ f, Scn t n f 0 K30 [] T K mt) ∧ (∀ x, x ∈ T → x.1 ≤ 8 ∧ (x.1 = 8 → x.2.2.toInt.toNat ∈ mt) ∧ (x.1 = 4 → 0 ∈ mt)) ∧ T.length ≤ 3001 ∧ K.length ≤ 30 + T.length ∧ mt.Nodup ∧ mt.length ≤ 3000 ∧ 30 ≤ K.length ∧ ∀ j, j ∈ mt → j < K.length := by
  have hq : q = 66 ∨ q = 86 := yy.elim (fun w => Or.inl w.1) (fun w => Or.inr w.1)
  have m : SMt t n q (pI (pI (pA h 61 (fun j => rb (t j))) 59 5 (nI n)) q 1 0) := by
    refine ⟨⟨(sk_same rfl rfl rfl : Sk _ = Sk h) ▸ s, rm_same rfl rfl rfl rm⟩, yy, ?_, hn, fun j _ => rfl, ht⟩
    rcases hq with rfl | rfl <;> rfl
  refine aev_c (d := 1399) (mi := 259) (vs := [.ref 59]) (h := pI (pI (pA h 61 (fun j => rb (t j))) 59 5 (nI n)) q 1 0) (sp_scans m up2_eq (by decide) (fun T K mt h' hS k' M' T' l1 l2 => ⟨T, K, mt, hS, T'.2.2, l1, l2, M'.1.2.2, M'.1.2.1, M'.2.2.2.2.2, fun j hj => ?_⟩))
  obtain ⟨k, hk⟩ := List.mem_iff_getElem?.mp hj
  exact (M'.2.1 k j hk).1
/-- the tree that the class read is fit to be built -/
theorem bk_x (s : Sk h) (rm : Rm h) (yy : YY q h) (hn : n ≤ 3000) (ht : ∀ j, t j < 256) (hR : RDt t n none K2 mt2 N stk) (hNb : N.1 ≤ 1 + 2 * n) : (∃ nw, BK1 N mt2 nw) ∧ Tr 32 N 0 N.1 ∧ nK N 0 = 6 ∧ LfN N ∧ PQn N ∧ (30 ≤ K2.length ∧ K2.length ≤ 1532) ∧ mt2.Nodup ∧ nC N 0 = nI (pts N 0).length := by
  obtain ⟨T, K, mt, hS, hm, l1, l2, nd, l3, l30, hj⟩ := scn_ex s rm yy hn ht
  obtain ⟨wt, g1, _⟩ := glue hn hS hR
  obtain ⟨r1, r2, rfl, rfl, r5⟩ := g1 rfl
  obtain ⟨f, hS⟩ := hS
  have k30 : K30.length = 30 := k30_len.2.2.2
  have tp := scn_tp f 0 K30 [] T K2 mt2 hS (Nat.zero_le _) (by omega)
  have hx : ∀ j, j ∈ mt2 → mt2.idxOf j < 3000 ∧ (fun k => nI (if mt2.getD k 0 < 30 then mt2.getD k 0 + 1 else 0)) (mt2.idxOf j) = nI (if j < 30 then j + 1 else 0) := fun j hj => by
    have h1 := List.idxOf_lt_length_iff.mpr hj
    have h2 : mt2.getD (mt2.idxOf j) 0 = j := by
      rw [List.getD_eq_getElem?_getD, List.getElem?_eq_getElem h1, List.getElem_idxOf]; rfl
    refine ⟨by omega, ?_⟩
    show nI (if mt2.getD (mt2.idxOf j) 0 < 30 then mt2.getD (mt2.idxOf j) 0 + 1 else 0) = _
    rw [h2]
  obtain ⟨b1, b2, b3, b4, b5, b6⟩ := bk_of (N := N) (nw := fun k => nI (if mt2.getD k 0 < 30 then mt2.getD k 0 + 1 else 0)) hn wt tp hm r1 r2.symm (by omega) (fun j hj' => by have := hj j hj'; omega) hx
  exact ⟨⟨_, b1⟩, b2, b3, b4, b5, ⟨l30, by omega⟩, nd, b6⟩
theorem bk_nw {nw nw' : Nat → Int32} (b : BK1 N mt nw) (h : ∀ j, j ∈ mt → mt.idxOf j < 3000 ∧ nw' (mt.idxOf j) = nI (if j < 30 then j + 1 else 0)) : BK1 N mt nw' := ⟨b.1, b.2.1, b.2.2.1, b.2.2.2.1, b.2.2.2.2.1, h⟩
/-- what build leaves alone -/
def FrB (q : Nat) (h0 h : Hp) : Prop := (hK h = hK h0 ∧ hR h = hR h0 ∧ hN h = hN h0 ∧ hn h = hn h0 ∧ hu h = hu h0 ∧ hv h = hv h0 ∧ hL h = hL h0 ∧ hB h = hB h0) ∧ (∀ a i, ¬ (a = q ∨ (a = 59 ∧ (i = 1 ∨ i = 2 ∨ i = 3 ∨ i = 5 ∨ (9 ≤ i ∧ i ≤ 16 ∧ i ≠ 12) ∨ i = 23 ∨ i = 24 ∨ i = 27))) → hI h a i = hI h0 a i) ∧ ∀ a, ¬ ((61 ≤ a ∧ a ≤ 64) ∨ (q + 1 ≤ a ∧ a ≤ q + 19) ∨ (106 ≤ a ∧ a ≤ 111)) → hA h a = hA h0 a
theorem fb_tr {h1 h2 : Hp} (a : FrB q h h1) (b : FrB q h1 h2) : FrB q h h2 := ⟨⟨b.1.1.trans a.1.1, b.1.2.1.trans a.1.2.1, b.1.2.2.1.trans a.1.2.2.1, b.1.2.2.2.1.trans a.1.2.2.2.1, b.1.2.2.2.2.1.trans a.1.2.2.2.2.1, b.1.2.2.2.2.2.1.trans a.1.2.2.2.2.2.1, b.1.2.2.2.2.2.2.1.trans a.1.2.2.2.2.2.2.1, b.1.2.2.2.2.2.2.2.trans a.1.2.2.2.2.2.2.2⟩, fun x i c => (b.2.1 x i c).trans (a.2.1 x i c), fun x c => (b.2.2 x c).trans (a.2.2 x c)⟩
theorem fb_rf : FrB q h h := ⟨⟨rfl, rfl, rfl, rfl, rfl, rfl, rfl, rfl⟩, fun _ _ _ => rfl, fun _ _ => rfl⟩
theorem fb_I {a i : Nat} {v : Int32} (k : FrB q h0 h) (ha : a = q ∨ (a = 59 ∧ (i = 1 ∨ i = 2 ∨ i = 3 ∨ i = 5 ∨ (9 ≤ i ∧ i ≤ 16 ∧ i ≠ 12) ∨ i = 23 ∨ i = 24 ∨ i = 27))) : FrB q h0 (pI h a i v) := ⟨k.1, fun x j hx => (up2_ne (fun e => hx (by rw [e.1, e.2]; exact ha))).trans (k.2.1 x j hx), k.2.2⟩
theorem fb_A {a : Nat} {f : Nat → Int32} (k : FrB q h0 h) (ha : (61 ≤ a ∧ a ≤ 64) ∨ (q + 1 ≤ a ∧ a ≤ q + 19) ∨ (106 ≤ a ∧ a ≤ 111)) : FrB q h0 (pA h a f) := ⟨k.1, k.2.1, fun x hx => (up1_ne (fun e => hx (by rw [e]; exact ha))).trans (k.2.2 x hx)⟩
theorem fb_s (k : KS q h h') : FrB q h h' := ⟨k.1, fun a i c => k.2.1 a i (by omega), fun a c => k.2.2 a (by omega)⟩
theorem fb_r (k : KYr q h h') : FrB q h h' := ⟨k.1, fun a i c => k.2.1 a i (by omega), fun a c => k.2.2 a (by omega)⟩
theorem fb_t (k : KYt q h h') : FrB q h h' := ⟨k.1, fun a i c => k.2.1 a i (by omega), fun a c => k.2.2 a (by omega)⟩
theorem fb_a (k : KYa q h h') : FrB q h h' := ⟨k.1, fun a i c => k.2.1 a i (by unfold YI; omega), fun a c => k.2.2 a (by unfold YA; omega)⟩
end BLD
