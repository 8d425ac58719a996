/-! BUILD. The reference's build to its end; what a fault leaves -/
def AgN (h g : Hp) : Prop := (∀ i, 30 ≤ i → hI g 59 i = hI h 59 i) ∧ (∀ i, hL g 59 i = hL h 59 i) ∧ ∀ a, 112 ≤ a → a ≤ 126 → hA g a = hA h a ∧ hB g a = hB h a ∧ hN g a = hN h a
section BLM
variable {h g g1 : Hp} {Q : Option Value → Hp → Prop} {d n p q p' q' k : Nat} {t : Nat → Nat} {G : PG} {qv : Nat → Int64} {pm : List Nat} {pl : List (Nat × Nat)} {z : CSt} {y : RSt} {D : VD}
theorem mxc_an {md : Option Nat} {nw : Int64} (e : AgN h g) (r : MXc md nw h) : MXc md nw g := by
  unfold MXc at r ⊢
  rw [e.2.1 65, e.1 66 (by decide), e.1 67 (by decide)]
  exact r
theorem rzn_an (e : AgN h g) (r : RZn y h) : RZn y g := by
  obtain ⟨e1, e2, e3⟩ := e
  have q112 := e3 112 (by decide) (by decide)
  have q113 := e3 113 (by decide) (by decide)
  have q116 := e3 116 (by decide) (by decide)
  have q117 := e3 117 (by decide) (by decide)
  have q118 := e3 118 (by decide) (by decide)
  have q119 := e3 119 (by decide) (by decide)
  have q120 := e3 120 (by decide) (by decide)
  have q121 := e3 121 (by decide) (by decide)
  have q122 := e3 122 (by decide) (by decide)
  have q123 := e3 123 (by decide) (by decide)
  have q124 := e3 124 (by decide) (by decide)
  have q125 := e3 125 (by decide) (by decide)
  have q126 := e3 126 (by decide) (by decide)
  obtain ⟨r1, r2, r3, r4, r5, r6⟩ := r
  refine ⟨?_, ?_, ?_, ?_, ?_, r6⟩
  · unfold MXt at r1 ⊢; rw [e1 50 (by decide), q122.1, q122.2.2, q123.1, q123.2.2, q124.1, q124.2.2]; exact r1
  · unfold MXw at r2 ⊢; rw [e1 52 (by decide), q125.2.1, q125.2.2]; exact r2
  · unfold MXb Bxs at r3 ⊢
    rw [e1 44 (by decide), e1 45 (by decide), e1 46 (by decide), e1 37 (by decide), e1 38 (by decide), e1 42 (by decide), q121.1, q121.2.2, q116.1, q116.2.2, q117.1, q117.2.2, q118.1, q118.2.2, q119.2.1, q119.2.2, q120.1, q120.2.2]; exact r3
  · unfold MXs at r4 ⊢; rw [e1 31 (by decide), e1 39 (by decide), q112.2.1, q112.2.2, q113.2.1, q113.2.2, q126.2.1, q126.2.2]; exact r4
  · unfold MXd at r5 ⊢; rw [e1 58 (by decide), e1 59 (by decide), e1 61 (by decide), e2 62, e2 64]; exact r5
theorem live_an (e1 : AgX h g) (e2 : AgN h g) (l : Live G qv pm pl z y h) : Live G qv pm pl z y g := by
  have a13 : hI g 47 13 = hI h 47 13 := by rw [e1.1.1]
  have a69 : hI g 59 69 = hI h 59 69 := e2.1 69 (by decide)
  unfold Live at l ⊢
  rw [a13, a69]
  rcases l with l | ⟨l1, l2, l3, l4⟩
  · exact Or.inl l
  · exact Or.inr ⟨l1, l2, mxc_an e2 l3, l4⟩
/-- both told a fault: the old program stays -/
theorem flt_fin (po : PoI h) (pO : PoO h) (hh : hI h 0 8 = hI h 59 19) (J : VJ D) (pt : Pt D h) (rq : Rq h) (H : (hI h 59 19 = 0 ∧ D = D0 ∧ Cn p q h ∧ St D0 h ∧ Pw D0 p q h) ∨ (hI h 59 19 = 1 ∧ ∃ G qv pm pl z y, D = Dv pm pl ∧ MPr G p q qv pm pl z y h))
    (c : CB g1) (v1 : Vs p q g1) (F : FCb p' h g1) (hs : p + p' = 48) (F2 : FrB q' g1 g) (hs2 : q + q' = 152) (i0 : hI g1 0 1 = 0) (i1 : hI g 59 1 = 0) (i2 : hI g1 2 0 = hI g 59 2) (i3 : hI g1 2 1 = hI g 59 3) : InvC (CoreM Mach) k g := by
  obtain ⟨hp, hq⟩ := vs_p v1
  have hp' : p' = 19 ∨ p' = 29 := by omega
  have hq' : q' = 66 ∨ q' = 86 := by omega
  obtain ⟨⟨B1, B2, B3, B4, B5, B6, B7, B8⟩, B9, B10⟩ := id F2
  have kx : ∀ a, a < 59 → ¬ XBc p' a → (a ≠ 0 → hI g a = hI h a) ∧ hL g a = hL h a ∧ hR g a = hR h a ∧ hA g a = hA h a ∧ hB g a = hB h a ∧ hN g a = hN h a := fun a a1 a2 => by
    obtain ⟨f1, f2, f3, f4, f5, f6⟩ := F.2 a a2
    refine ⟨fun w => ?_, by rw [B7]; exact f2, by rw [B2]; exact f3, (B10 a (by omega)).trans f4, by rw [B8]; exact f5, by rw [B3]; exact f6⟩
    rw [← f1 w]
    funext i
    exact B9 a i (by omega)
  have km : ∀ a, 59 ≤ a → a < 130 → hL g a = hL h a ∧ hR g a = hR h a ∧ hB g a = hB h a ∧ hN g a = hN h a ∧ (a ≠ 59 → a ≠ q' → hI g a = hI h a) ∧ (¬ ((61 ≤ a ∧ a ≤ 64) ∨ (q' + 1 ≤ a ∧ a ≤ q' + 19) ∨ (106 ≤ a ∧ a ≤ 111)) → hA g a = hA h a) := fun a a1 a2 => by
    obtain ⟨f1, f2, f3, f4, f5, f6⟩ := F.2 a (by unfold XBc; omega)
    refine ⟨by rw [B7]; exact f2, by rw [B2]; exact f3, by rw [B8]; exact f5, by rw [B3]; exact f6, fun w1 w2 => ?_, fun w => (B10 a w).trans f4⟩
    rw [← f1 (by omega)]
    funext i
    exact B9 a i (by omega)
  have k59 : ∀ i, 17 ≤ i → i ≠ 23 → i ≠ 24 → i ≠ 27 → hI g 59 i = hI h 59 i := fun i w1 w2 w3 w4 => by
    refine (B9 59 i (by omega)).trans ?_
    rw [(F.2 59 (by unfold XBc; omega)).1 (by decide)]
  have h0 : ∀ i, i ≠ 1 → hI g 0 i = hI h 0 i := fun i hi => (B9 0 i (by omega)).trans (F.1 i hi)
  have s := fb_sk F2 c.1
  have vy : Vy g := by unfold Vy; rw [B2]; exact c.2.1
  have rm := fb_rm F2 c.2.2
  have vs : Vs p q g := vs_same B2 v1
  have agx : AgX h g := by
    have m47 := kx 47 (by decide) (by unfold XBc; omega)
    have m48 := kx 48 (by decide) (by unfold XBc; omega)
    refine ⟨⟨m47.1 (by decide), m48.1 (by decide), m47.2.1⟩, fun a ha => ?_⟩
    obtain ⟨_, _, _, e4, e5, e6⟩ := kx a (by omega) (by unfold XBc; omega)
    exact ⟨e4, e5, e6⟩
  have agn : AgN h g := by
    refine ⟨fun i hi => k59 i (by omega) (by omega) (by omega) (by omega), fun i => by rw [(km 59 (by decide) (by decide)).1], fun a a1 a2 => ?_⟩
    obtain ⟨_, _, e5, e6, _, e4⟩ := km a (by omega) (by omega)
    exact ⟨e4 (by omega), e5, e6⟩
  have e19 : hI g 59 19 = hI h 59 19 := k59 19 (by decide) (by decide) (by decide) (by decide)
  have x50 := kx 50 (by decide) (by unfold XBc; omega)
  have x51 := kx 51 (by decide) (by unfold XBc; omega)
  have x52 := kx 52 (by decide) (by unfold XBc; omega)
  have x58 := kx 58 (by decide) (by unfold XBc; omega)
  have x0 := kx 0 (by decide) (by unfold XBc; omega)
  have m59 := km 59 (by decide) (by decide)
  have m127 := km 127 (by decide) (by decide)
  have m128 := km 128 (by decide) (by decide)
  have m129 := km 129 (by decide) (by decide)
  have e55 := k59 55 (by decide) (by decide) (by decide) (by decide)
  have e57 := k59 57 (by decide) (by decide) (by decide) (by decide)
  have e60 := k59 60 (by decide) (by decide) (by decide) (by decide)
  have z0' : (0 : Int32) = nI 0 := rfl
  refine ⟨s, ⟨0, by decide, ((B9 0 1 (by omega)).trans i0).trans z0', i1.trans z0', fun j hj => absurd hj (Nat.not_lt_zero _), rm.1.2 (1, 3000) (by decide), rm.1.2 (60, 3000) (by decide)⟩, ⟨(B9 2 0 (by omega)).trans i2, (B9 2 1 (by omega)).trans i3⟩, ?_, ?_, ?_, D, J, ?_, s, vy, rm, ?_, p, q, vs, ?_⟩
  · unfold PoI at po ⊢
    rw [x51.2.2.2.2.2, x51.2.2.2.1, x50.1 (by decide), e55, m127.2.2.2.1, m127.2.2.2.2.2 (by omega)]
    exact po
  · unfold PoO at pO ⊢
    rw [x52.2.2.2.2.2, x52.2.2.2.1, x50.1 (by decide), e57, m128.2.2.2.1, m128.2.2.2.2.2 (by omega)]
    exact pO
  · rw [h0 8 (by decide), e19]; exact hh
  · unfold Pt at pt ⊢
    rw [x0.2.1, m59.1, x58.2.2.2.2.1, m129.2.2.1, x58.2.2.2.2.2, m129.2.2.2.1]
    exact pt
  · unfold Rq at rq ⊢
    rw [(km 119 (by decide) (by decide)).2.2.2.1, (km 120 (by decide) (by decide)).2.2.2.1, (km 121 (by decide) (by decide)).2.2.2.1, (km 122 (by decide) (by decide)).2.2.2.1, (km 123 (by decide) (by decide)).2.2.2.1, (km 124 (by decide) (by decide)).2.2.2.1, k59 61 (by decide) (by decide) (by decide) (by decide)]
    exact rq
  · have xp : ∀ j, j ≤ 9 → ¬ XBc p' (p + j) := fun j hj => by unfold XBc; omega
    have ip : hI g p = hI h p := (kx p (by omega) (xp 0 (by decide))).1 (by omega)
    have iq : hI g q = hI h q := (km q (by omega) (by omega)).2.2.2.2.1 (by omega) (by omega)
    have a49 := agx.2 49 (Or.inl rfl)
    have a112 := agn.2.2 112 (by decide) (by decide)
    have a113 := agn.2.2 113 (by decide) (by decide)
    have a116 := agn.2.2 116 (by decide) (by decide)
    rcases H with ⟨n0, hD, cn, st, pw⟩ | ⟨n0, G, qv, pm, pl, z, y, hD, ps, sx, sm, rw', rz, ea, mid, lv⟩
    · refine Or.inl ⟨by rw [e19]; exact n0, hD, ?_, ?_, ?_⟩
      · unfold Cn at cn ⊢
        rw [e19, ip, iq, agx.1.1, agx.1.2.1, agn.1 58 (by decide), e60, agn.1 39 (by decide), agn.1 59 (by decide), agn.2.1 62]
        exact cn
      · unfold St at st ⊢
        rw [agx.1.2.1, a49.2.1, a49.2.2, a112.2.1, a112.2.2, a113.2.1, a113.2.2]
        exact st
      · unfold Pw at pw ⊢
        have p5 := kx (p + 5) (by omega) (xp 5 (by decide))
        have q15 := km (q + 15) (by omega) (by omega)
        rw [agx.1.2.1, ip, a49.2.1, a49.2.2, a116.1, a116.2.2, p5.2.2.2.1, p5.2.2.2.2.2, q15.2.2.2.1, q15.2.2.2.2.2 (by omega)]
        exact pw
    · refine Or.inr ⟨by rw [e19]; exact n0, G, qv, pm, pl, z, y, hD, ps, ⟨s, vy, rm, ?_, ?_, sx.2.2.2.2.2⟩, ⟨s, vy, rm, ?_, ?_, rm.1.2 (114, 6200) (by decide), ?_⟩, rwn_ag agx rw', rzn_an agn rz, ?_, mid, live_an agx agn lv⟩
      · exact px_same ip (fun j hj => ⟨(kx _ (by omega) (xp j hj)).2.2.2.1, (kx _ (by omega) (xp j hj)).2.2.2.2.2, (kx _ (by omega) (xp j hj)).2.2.2.2.1⟩) sx.2.2.2.1
      · rw [(kx 47 (by decide) (by unfold XBc; omega)).2.2.1]; exact sx.2.2.2.2.1
      · refine pm_same iq (fun j hj => ⟨?_, (km (q + j) (by omega) (by omega)).2.2.2.1⟩) sm.2.2.2.1
        by_cases j0 : j = 0
        · subst j0
          exact (km (q + 0) (by omega) (by omega)).2.2.2.2.2 (by omega)
        · exact (km (q + j) (by omega) (by omega)).2.2.2.2.2 (by omega)
      · rw [m59.2.1]; exact sm.2.2.2.2.1
      · rw [(km 114 (by decide) (by decide)).2.2.1]; exact sm.2.2.2.2.2.2
      · rw [agx.1.1, e60]; exact ea
/-- the reference's build that tells none -/
theorem sp_bM {tp : Nat} {K : List KY} {mt : List Nat} {N : NS} {stk : List SE} (c : CB h) (rq : Rq h) (vs : Vs p q h) (hs2 : q + q' = 152) (htp : tp ≤ 3000) (hnt : n ≤ tp) (e1 : hI h 59 1 = nI tp) (h60 : ∀ j, j < n → hA h 60 j = rb (t j)) (ht : ∀ j, t j < 256) (hRt : RDt t n none K mt N stk) (hNb : N.1 ≤ 1 + 2 * n) (hf : rFl (cAll N mt) = none) (hd : 500 < d)
    (hq : ∀ h' nw qv pa bu pm ty, PS (gOf N mt nw) → Cor (gOf N mt nw) qv pm [] ty [] [] [] (dat (gOf N mt nw)) 0 (List.replicate 100 (vof 9 0)) [] [] pa (List.replicate (pDf (gOf N mt nw)) (vof 9 0)) → SM0 (gOf N mt nw) q' qv h' → RZn (y0 (gOf N mt nw) pa bu) h' → MXc none 0 h' → MXp [] [] h' → (hI h' 59 69 = -1 ∧ hI h' 59 60 = -1 ∧ hL h' 59 63 = 0) → (∀ j, j < 4 → hB h' 129 j = 0) → Vs p q' h' → Rq h' → (hI h' 59 1 = 0 ∧ hI h' 59 2 = 0 ∧ hI h' 59 3 = -1 ∧ hI h' 59 19 = 1) → Q (some (.int 0)) h') : aEv d 290 [.ref 59, .int (nI n)] h Q := by
  have h0 : 0 < d := by omega
  obtain ⟨hp, hq66⟩ := vs_p vs
  have hq' : q' = 66 ∨ q' = 86 := by omega
  have eq' : 152 - q = q' := by omega
  have yy : YY q' h := eq' ▸ yy_of vs
  have sb : SB = 1000000 := rfl
  refine sp_refB c.1 c.2.2 yy htp hnt e1 h60 ht hRt hNb (fun k p e => by cases e) hd (fun k f w => ?_) (fun _ _ h1 nw L hLL bk P F i1 i2 i3 => ?_)
  · rcases w with w | ⟨_, w⟩
    · cases w
    · rw [hf] at w; cases w
  have ps := ps_of bk hf
  obtain ⟨hW, _, qv0, pa0, hQ, hpa, pm0, ty0, cor0⟩ := id ps
  have s1 := fb_sk F c.1
  have V1 : Vs p q h1 := vs_same F.1.2.1 vs
  obtain ⟨_, r17, r18⟩ := vs_r V1
  rw [eq'] at r18
  have kq : ∀ {h : Hp}, Sk h → hK h q = 11 := fun {h} s => by rcases hq66 with rfl | rfl <;> exact s.1 _ (by decide)
  have kq' : ∀ {h : Hp}, Sk h → hK h q' = 11 := fun {h} s => by rcases hq' with rfl | rfl <;> exact s.1 _ (by decide)
  have W : aWP d 290 172 [(2, .ref q), (0, .ref 59), (1, .int (nI n))] [.ref q', .ref 59] h1 Q := by
    have hsw1 : ¬ swOK h1 [(2, .ref q), (0, .ref 59), (1, .int (nI n))] [] 59 17 q q' := fun w => by
      have c3 := w.2.2.1
      have := kq s1
      omega
    refine (k_putO (st := []) mm_290 dX13_build_172 fl_13_43 rfl (by unfold finOK; decide +kernel) r17 hsw1).mpr ⟨⟨s1.1 59 (by decide), by omega⟩, ?_⟩
    have s2 : Sk (pR h1 59 17 (some q')) := sk_vr rfl s1
    have r18' : hR (pR h1 59 17 (some q')) 59 18 = some q' := r18
    have hsw2 : ¬ swOK (pR h1 59 17 (some q')) [(2, .ref q), (0, .ref 59), (1, .int (nI n))] [] 59 18 q' q := fun w => by
      have c3 := w.2.2.1
      have := kq' s2
      omega
    simp only [lv_args, z_v, z_lg, z_h, z_u, z_u1, z_c, z_ct, z_sk, sbne, lst1_d, ldel, lst2_d, ldel2, z_sw, z_rok, zi, eq_self, List.map_cons, List.map_nil, List.append_nil, List.nil_append, List.cons_append, Int32.reduceLT, Int32.reduceLE, Int32.reduceAdd, Int32.reduceSub, Int32.reduceMul, Int32.reduceToInt, Int32.reduceToNatClampNeg, Int.reduceLT, Int.reduceLE, Int.reduceNeg, true_and, and_true, or_self, or_false, false_or, false_and, and_false, true_or, or_true, if_true, if_false, ne_eq, Classical.not_not, not_true_eq_false, not_false_eq_true, true_implies, false_implies, implies_true, Nat.reduceEqDiff, Nat.reduceAdd, Nat.reduceLeDiff, Nat.reduceSub, reduceCtorEq, reduceIte, b290_162, skM s1]
    refine (k_putO (st := []) mm_290 dX13_build_177 fl_13_47 rfl (by unfold finOK; decide +kernel) r18' hsw2).mpr ⟨⟨s2.1 59 (by decide), by omega⟩, ?_⟩
    have s3 : Sk (pR (pR h1 59 17 (some q')) 59 18 (some q)) := sk_vr rfl s2
    have s4 : Sk (pI (pR (pR h1 59 17 (some q')) 59 18 (some q)) 59 19 1) := sk_u1 s3
    have V4 : Vs p q' (pI (pR (pR h1 59 17 (some q')) 59 18 (some q)) 59 19 1) := by
      refine ⟨V1.1, ?_, V1.2.2.1, V1.2.2.2.1, V1.2.2.2.2⟩
      rcases hq66 with rfl | rfl
      · obtain rfl : q' = 86 := by omega
        exact Or.inr ⟨rfl, rfl, rfl⟩
      · obtain rfl : q' = 66 := by omega
        exact Or.inl ⟨rfl, rfl, rfl⟩
    have P4 : PM (gOf N mt nw) q' (pI (pR (pR h1 59 17 (some q')) 59 18 (some q)) 59 19 1) := pm_same (up2_row (by omega)) (fun j hj => ⟨rfl, rfl⟩) P
    have vy4 : Vy (pI (pR (pR h1 59 17 (some q')) 59 18 (some q)) 59 19 1) := by
      have : Vy h1 := by unfold Vy; rw [F.1.2.1]; exact c.2.1
      exact vy_vr (by omega) (vy_vr (by omega) this)
    have rm4 : Rm (pI (pR (pR h1 59 17 (some q')) 59 18 (some q)) 59 19 1) := rm_same (h := h1) rfl rfl rfl (fb_rm F c.2.2)
    have rq4 : Rq (pI (pR (pR h1 59 17 (some q')) 59 18 (some q)) 59 19 1) := by
      have r1 : Rq h1 := rq_same F.1.2.2.1 (F.2.1 59 61 (by omega)) rq
      exact rq_same rfl rfl r1
    obtain ⟨_, r17', r18''⟩ := vs_r V4
    obtain ⟨_, _, _, bu, hbu, ebu⟩ := id rq4
    simp only [lv_args, z_v, z_lg, z_h, z_u, z_u1, z_c, z_ct, z_sk, sbne, lst1_d, ldel, lst2_d, ldel2, z_sw, z_rok, zi, eq_self, List.map_cons, List.map_nil, List.append_nil, List.nil_append, List.cons_append, Int32.reduceLT, Int32.reduceLE, Int32.reduceAdd, Int32.reduceSub, Int32.reduceMul, Int32.reduceToInt, Int32.reduceToNatClampNeg, Int.reduceLT, Int.reduceLE, Int.reduceNeg, true_and, and_true, or_self, or_false, false_or, false_and, and_false, true_or, or_true, if_true, if_false, ne_eq, Classical.not_not, not_true_eq_false, not_false_eq_true, true_implies, false_implies, implies_true, Nat.reduceEqDiff, Nat.reduceAdd, Nat.reduceLeDiff, Nat.reduceSub, reduceCtorEq, reduceIte, b290_162, skM s1, h0]
    refine sp_begins s4 vy4 rm4 rq4 P4 r17' hW r18'' hQ hpa hbu ebu (by omega) (fun h2 y1 y2 y3 y4 y5 y6 y7 y8 y9 => ?_)
    have s5 := y1.1
    simp only [lv_args, z_v, z_lg, z_h, z_u, z_u1, z_c, z_ct, z_sk, sbne, lst1_d, ldel, lst2_d, ldel2, z_sw, z_rok, zi, eq_self, List.map_cons, List.map_nil, List.append_nil, List.nil_append, List.cons_append, Int32.reduceLT, Int32.reduceLE, Int32.reduceAdd, Int32.reduceSub, Int32.reduceMul, Int32.reduceToInt, Int32.reduceToNatClampNeg, Int.reduceLT, Int.reduceLE, Int.reduceNeg, true_and, and_true, or_self, or_false, false_or, false_and, and_false, true_or, or_true, if_true, if_false, ne_eq, Classical.not_not, not_true_eq_false, not_false_eq_true, true_implies, false_implies, implies_true, Nat.reduceEqDiff, Nat.reduceAdd, Nat.reduceLeDiff, Nat.reduceSub, reduceCtorEq, reduceIte, b290_162, skM s1, skM s5, h0, kq s1, kq s5, Nat.reduceLT]
    refine hq h2 nw qv0 pa0 bu pm0 ty0 ps cor0 y1 y2 y3 y4 y5 y6 (vs_same y7 V4) ⟨y2.1.2.2.1, y2.2.2.1.2.2.1, y2.2.2.1.1.2.2.2.2.2.2, bu, hbu, y2.2.2.2.2.1.2.2.2.2.2.1⟩ ⟨y8.1.trans i1, y8.2.1.trans i2, y8.2.2.1.trans i3, y8.2.2.2.trans rfl⟩
  rcases hLL with rfl | rfl
  · simp only [lv_args, z_v, z_lg, z_h, z_u, z_u1, z_c, z_ct, z_sk, sbne, lst1_d, ldel, lst2_d, ldel2, z_sw, z_rok, zi, eq_self, List.map_cons, List.map_nil, List.append_nil, List.nil_append, List.cons_append, Int32.reduceLT, Int32.reduceLE, Int32.reduceAdd, Int32.reduceSub, Int32.reduceMul, Int32.reduceToInt, Int32.reduceToNatClampNeg, Int.reduceLT, Int.reduceLE, Int.reduceNeg, true_and, and_true, or_self, or_false, false_or, false_and, and_false, true_or, or_true, if_true, if_false, ne_eq, Classical.not_not, not_true_eq_false, not_false_eq_true, true_implies, false_implies, implies_true, Nat.reduceEqDiff, Nat.reduceAdd, Nat.reduceLeDiff, Nat.reduceSub, reduceCtorEq, reduceIte, b290_162, skM s1, r17, r18]
    exact W
  · simp only [lv_args, z_v, z_lg, z_h, z_u, z_u1, z_c, z_ct, z_sk, sbne, lst1_d, ldel, lst2_d, ldel2, z_sw, z_rok, zi, eq_self, List.map_cons, List.map_nil, List.append_nil, List.nil_append, List.cons_append, Int32.reduceLT, Int32.reduceLE, Int32.reduceAdd, Int32.reduceSub, Int32.reduceMul, Int32.reduceToInt, Int32.reduceToNatClampNeg, Int.reduceLT, Int.reduceLE, Int.reduceNeg, true_and, and_true, or_self, or_false, false_or, false_and, and_false, true_or, or_true, if_true, if_false, ne_eq, Classical.not_not, not_true_eq_false, not_false_eq_true, true_implies, false_implies, implies_true, Nat.reduceEqDiff, Nat.reduceAdd, Nat.reduceLeDiff, Nat.reduceSub, reduceCtorEq, reduceIte, b290_162, skM s1, r17, r18]
    exact W
end BLM
