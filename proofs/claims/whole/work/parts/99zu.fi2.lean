/-! BUILD. How much the reference's lambdas keep: every form -/
section FIJ
variable {N : NS} {y y1 y2 y3 y5 y' : MR} {a b g m n c : Nat} {Fm : Nat → MR → MR}
theorem fi_rest (h : FI y5) (h3 : mSg y' = (mSg y5).take c) (h4 : mLv y' = mLv y5) (h5 : mAr y' = mAr y5) (h6 : mFe y' = mFe y5) (h7 : mLa y' = mLa y5) (hc : ∀ i, c ≤ i → i < (mSg y5).length → (sgD y5 i).2.1 = mAr y5 (mLv y5)) : FI y' := by
  obtain ⟨k1, k2, k3, k4⟩ := h
  have fs : fes y' = fes y5 := by funext M; unfold fes; rw [h6]
  have sg : ∀ i, i < c → sgD y' i = sgD y5 i := fun i hi => by unfold sgD; rw [h3, gd_take hi]
  refine ⟨fun i hi => ?_, by rw [h4, h5]; exact k2, by unfold AI; rw [h4, h5, h7]; exact k3, fun l l1 l2 => ?_⟩
  · rw [h3, List.length_take] at hi
    rw [sg i (by omega), h4, h5]
    exact k1 i (by omega)
  · rw [h4] at l2
    rw [h5, fs]
    obtain ⟨f1, f2⟩ := k4 l l1 l2
    refine ⟨f1, fun s hs => ?_⟩
    obtain ⟨q1, q2⟩ := f2 s hs
    have hlt : s < c := Nat.lt_of_not_le fun cc => by
      have := hc s cc q1
      rcases Nat.lt_or_ge l (mLv y5) with q | q
      · have := k2 l (mLv y5) q (Nat.le_refl _)
        omega
      · have : l = mLv y5 := by omega
        subst this
        omega
    rw [sg s hlt, h3, List.length_take]
    exact ⟨by omega, q2⟩
theorem fi_rest2 (h : FI y5) (h3 : mSg y' = (mSg y5).take c) (h4 : mLv y' + 1 = mLv y5) (h5 : mAr y' = mAr y5) (h6 : mFe y' = mFe y5) (h7 : mLa y' = mLa y5) (hc : ∀ i, c ≤ i → i < (mSg y5).length → (sgD y5 i).2.1 = mAr y5 (mLv y5)) (hlow : ∀ i, i < c → i < (mSg y5).length → ∃ l, l ≤ mLv y' ∧ (sgD y5 i).2.1 = mAr y5 l) : FI y' := by
  obtain ⟨k1, k2, k3, k4⟩ := h
  have fs : fes y' = fes y5 := by funext M; unfold fes; rw [h6]
  have sg : ∀ i, i < c → sgD y' i = sgD y5 i := fun i hi => by unfold sgD; rw [h3, gd_take hi]
  refine ⟨fun i hi => ?_, fun l l' q1 q2 => by rw [h5]; exact k2 l l' q1 (by omega), fun l hl => by rw [h5, h7]; exact k3 l (by omega), fun l l1 l2 => ?_⟩
  · rw [h3, List.length_take] at hi
    rw [sg i (by omega), h5]
    exact hlow i (by omega) (by omega)
  · rw [h5, fs]
    obtain ⟨f1, f2⟩ := k4 l l1 (by omega)
    refine ⟨f1, fun s hs => ?_⟩
    obtain ⟨q1, q2⟩ := f2 s hs
    have hlt : s < c := Nat.lt_of_not_le fun cc => by
      have := hc s cc q1
      have := k2 l (mLv y5) (by omega) (Nat.le_refl _)
      omega
    rw [sg s hlt, h3, List.length_take]
    exact ⟨by omega, q2⟩
theorem lt_f (hM : MFs N g Fm) (hS : FIs N g Fm) {rec : Bool} {a0 b0 : Nat} : ∀ (ps bf : List Nat) (a b : Nat) (y : MR), Sqn g N (vls N ps) a b → a0 ≤ a → b ≤ b0 → 1 ≤ a0 → Prw N ps a0 b0 → FI y → (mSg y).length + 8 * g ≤ 250 → FIe y (mLt N Fm rec ps bf y)
  | [], _, _, _, _, _, _, _, _, _, h, _ => fie_same h rfl rfl rfl
  | p :: ps, bf, a, b, y, hs, ha, hb, h0, hp, h, h1 => by
    obtain ⟨q1, m, q2, q3, q4, q5⟩ := hs
    have q1 : a ≤ prt N p 1 := q1
    have q3 : prt N p 1 < m := q3
    have e0 : MEf N a0 b0 y (if rec then y else mBp N bf (prt N p 0) y) ∧ FIe y (if rec then y else mBp N bf (prt N p 0) y) := by
      split
      · exact ⟨mef_rf, fie_same h rfl rfl rfl⟩
      · refine ⟨bp_m (hp p (by simp)), ?_⟩
        unfold mBp
        split <;> exact fie_same h rfl rfl rfl
    show FIe y (mLt N Fm rec ps (bf ++ [nCn N (prt N p 0)]) (Fm (prt N p 1) (if rec then y else mBp N bf (prt N p 0) y)))
    generalize (if rec then y else mBp N bf (prt N p 0) y) = y0 at *
    obtain ⟨e0, f0⟩ := e0
    have M1 := hM (prt N p 1) m y0 q2 (by omega) f0.1.2.2.1
    have f1 := hS (prt N p 1) m y0 q2 (by omega) f0.1 (by rw [e0.1.1]; exact h1)
    have hp' : Prw N ps a0 b0 := fun q hq => hp q (List.mem_cons_of_mem _ hq)
    have M2 := lt_m hM (rec := rec) (a0 := a0) (b0 := b0) ps (bf ++ [nCn N (prt N p 0)]) m b (Fm (prt N p 1) y0) q5 (by omega) hb h0 hp' (ai_ef M1 f0.1.2.2.1)
    have f2 := lt_f hM hS (rec := rec) (a0 := a0) (b0 := b0) ps (bf ++ [nCn N (prt N p 0)]) m b (Fm (prt N p 1) y0) q5 (by omega) hb h0 hp' f1.1 (by rw [M1.1.1, e0.1.1]; exact h1)
    have M1' := mef_wk M1 (by omega : a0 ≤ _) (by omega : _ ≤ b0)
    exact fie_tr (N := N) (a := a0) (b := b0) h f0 (fie_tr (N := N) (a := a0) (b := b0) f0.1 f1 f2 M1' M2) e0 (mef_tr M1' M2)
theorem let_f (hM : MFs N g Fm) (hS : FIs N g Fm) {rec : Bool} {ps bo : List Nat} (s1 : Sqn g N (vls N ps) a m) (s2 : Sqn g N bo m b) (ha : 1 ≤ a) (hps : ps.length ≤ 8) (hp : Prw N ps a b) (h : FI y) (h1 : (mSg y).length + 8 * (g + 1) ≤ 250) : FIe y (mLet N Fm rec n ps bo y) := by
  have hnm := seq_le _ _ _ s1
  have hmb := seq_le _ _ _ s2
  have hN : FI (mN1 n (nI (mSl y (mLv y))) y) := fi_same h rfl rfl (Nat.le_refl _)
  have fin : ∀ (yk y4 : MR) (js : List Nat), FIe y yk → mLv yk = mLv y → mSg yk = mSg y → (∀ l, l ≤ mLv y → mAr yk l = mAr y l) → mLa y ≤ mLa yk → InS js yk y4 → FI y4 → js.length ≤ 8 → ∀ y6, (mSg y6 = mSg y4 ∧ mLv y6 = mLv y4 ∧ ∀ l, l ≤ mLv y4 → mAr y6 l = mAr y4 l) → (∀ M, M ≤ mLa y4 → (∀ l, l ≤ mLv y4 → M ≠ mAr y4 l) → mFe y6 M = mFe y4 M) → FIe y4 y6 → FIe y (mSs (mSl y (mLv y)) (mTk (mSg y).length y6)) := fun yk y4 js fk lk sk ak lak I hi4 hjs y6 M6 Mi f6 => by
    have sg6 : mSg y6 = mSg y ++ bM js (mAr yk (mLv yk)) (mSl yk (mLv yk)) := by rw [M6.1, I.1, sk]
    refine ⟨fi_rest (c := (mSg y).length) f6.1 rfl rfl rfl rfl rfl (fun i hi1 hi2 => ?_), fun M h3 h4 => ?_⟩
    · rw [sg6, List.length_append, bM_len] at hi2
      unfold sgD
      rw [sg6, gd_app3 hi1, bM_get _ _ _ _ (by omega)]
      show mAr yk (mLv yk) = _
      rw [M6.2.1, M6.2.2 _ (Nat.le_refl _), I.2.1, I.2.2.1]
    · show (mFe y6 M).length ≤ 250
      by_cases cM : M ≤ mLa yk
      · rw [Mi M (by rw [I.2.2.2.2.2.1]; exact cM) (fun l hl => by
          rw [I.2.1, lk] at hl
          rw [I.2.2.1, ak l hl]
          have := h.2.2.1 l hl
          omega), I.2.2.2.2.2.2.1]
        exact fk.2 M h3 cM
      · exact f6.2 M (by rw [I.2.2.2.2.2.1]; omega) h4
  unfold mLet
  dsimp only
  cases rec
  · simp only [Bool.false_eq_true, if_false]
    have M3 := lt_m hM (rec := false) ps [] a m (mN1 n (nI (mSl y (mLv y))) y) s1 (Nat.le_refl _) hmb ha hp hN.2.2.1
    have f3 := lt_f hM hS (rec := false) (a0 := a) (b0 := b) ps [] a m (mN1 n (nI (mSl y (mLv y))) y) s1 (Nat.le_refl _) hmb ha hp hN (by show (mSg y).length + _ ≤ _; omega)
    generalize mLt N Fm false ps [] (mN1 n (nI (mSl y (mLv y))) y) = y3 at *
    have I4 := ins_S (ps.map (fun p => nCn N (prt N p 0))) y3
    have i4 := fi_ins (ps.map (fun p => nCn N (prt N p 0))) y3 f3.1
    generalize (ps.map (fun p => nCn N (prt N p 0))).foldl (fun y j => mIn j y) y3 = y4 at *
    have len4 : (mSg y4).length = (mSg y).length + ps.length := by
      rw [I4.1, List.length_append, bM_len, List.length_map, M3.1.1]
      rfl
    have M6 := bo_m hM bo m b y4 s2 (by omega) i4.2.2.1
    have f6 := bo_f hM hS bo m b y4 s2 (by omega) i4 (by omega)
    exact fin y3 y4 _ f3 M3.1.2.1 M3.1.1 M3.1.2.2.1 M3.2.1 I4 i4 (by rw [List.length_map]; exact hps) _ ⟨M6.1.1, M6.1.2.1, M6.1.2.2.1⟩ (fun M q1 q2 => (M6.2.2.2.2.1 M q1 q2).2) f6
  · simp only [if_true]
    obtain ⟨b1, b2, b3, b4⟩ := bi_ins (N := N) (w := (mSg y).length) (ps.map (fun p => prt N p 0)) (mN1 n (nI (mSl y (mLv y))) y) (mN1 n (nI (mSl y (mLv y))) y) rfl rfl rfl rfl
    have I4 := ins_S ((ps.map (fun p => prt N p 0)).map (nCn N)) (mN1 n (nI (mSl y (mLv y))) y)
    have i4 := fi_bi (N := N) (w := (mSg y).length) (ps.map (fun p => prt N p 0)) (mN1 n (nI (mSl y (mLv y))) y) hN
    have bm := bi_m (N := N) (a := a) (b := b) (w := (mSg y).length) (ps.map (fun p => prt N p 0)) (mN1 n (nI (mSl y (mLv y))) y) (fun x hx => by
      obtain ⟨p, hp1, rfl⟩ := List.mem_map.mp hx
      exact hp p hp1)
    generalize hyi : ((ps.map (fun p => prt N p 0)).map (nCn N)).foldl (fun y j => mIn j y) (mN1 n (nI (mSl y (mLv y))) y) = yi at *
    generalize mBi N (mSg y).length (ps.map (fun p => prt N p 0)) (mN1 n (nI (mSl y (mLv y))) y) = y4 at *
    have I4' : InS ((ps.map (fun p => prt N p 0)).map (nCn N)) (mN1 n (nI (mSl y (mLv y))) y) (y4.1, y4.2.1, y4.2.2.1, mFm y4, mWr (mN1 n (nI (mSl y (mLv y))) y)) := by
      obtain ⟨j1, j2, j3, j4, j5, j6, j7, j8, j9⟩ := I4
      have e1 : mSg y4 = mSg yi := congrArg (fun t => t.1) b2
      have e2 : mLv y4 = mLv yi := congrArg (fun t => t.2.1) b2
      have e3 : mAr y4 = mAr yi := congrArg (fun t => t.2.2.1) b2
      have e4 : mSl y4 = mSl yi := congrArg (fun t => t.2.2.2) b2
      exact ⟨e1.trans j1, e2.trans j2, e3.trans j3, by show mSl y4 _ = _; rw [e4]; exact j4, b1.trans j5, (congrArg (fun t => t.1) b3).trans j6, (congrArg (fun t => t.2.2.2.2) b3).trans j7, b4.trans j8, rfl⟩
    have len4 : (mSg y4).length = (mSg y).length + ps.length := by
      have := I4'.1
      have : mSg y4 = mSg y ++ bM ((ps.map (fun p => prt N p 0)).map (nCn N)) (mAr y (mLv y)) (mSl y (mLv y)) := this
      rw [this, List.length_append, bM_len, List.length_map, List.length_map]
    have M3 := lt_m hM (rec := true) ps [] a m y4 s1 (Nat.le_refl _) hmb ha hp i4.2.2.1
    have f3 := lt_f hM hS (rec := true) (a0 := a) (b0 := b) ps [] a m y4 s1 (Nat.le_refl _) hmb ha hp i4 (by omega)
    generalize mLt N Fm true ps [] y4 = y5 at *
    have M6 := bo_m hM bo m b y5 s2 (by omega) (ai_ef M3 i4.2.2.1)
    have f6 := bo_f hM hS bo m b y5 s2 (by omega) f3.1 (by rw [M3.1.1]; omega)
    have Mt := mef_tr M3 (mef_wk M6 hnm (Nat.le_refl _))
    have ft := fie_tr (N := N) (a := a) (b := b) i4 f3 f6 M3 (mef_wk M6 hnm (Nat.le_refl _))
    exact fin (mN1 n (nI (mSl y (mLv y))) y) (y4.1, y4.2.1, y4.2.2.1, mFm y4, mWr (mN1 n (nI (mSl y (mLv y))) y)) _ (fie_same h rfl rfl rfl) rfl rfl (fun _ _ => rfl) (Nat.le_refl _) I4' (fi_same i4 rfl rfl (Nat.le_refl _)) (by rw [List.length_map, List.length_map]; exact hps) _ ⟨Mt.1.1, Mt.1.2.1, Mt.1.2.2.1⟩ (fun M q1 q2 => (Mt.2.2.2.2.1 M q1 q2).2) ft
theorem lam_f (hM : MFs N g Fm) (hS : FIs N g Fm) {ns bo : List Nat} (s2 : Sqn g N bo m b) (ha : 1 ≤ m) (hns : ns.length ≤ 8) (h : FI y) (h1 : (mSg y).length + 8 * (g + 1) ≤ 250) : FIe y (mLam N Fm n ns bo y) := by
  obtain ⟨y1, e0, q1, q2⟩ : ∃ y1, y1 = mN1 n (nI (mLa y + 1)) (if 120 < mLa y + 1 then mW 6 (nQ N n) y else y) ∧ y1.2.1 = y.2.1 ∧ y1.2.2.1 = y.2.2.1 := by
    refine ⟨_, rfl, ?_⟩
    split <;> exact ⟨rfl, rfl⟩
  unfold mLam
  dsimp only
  rw [← e0]
  have a0 : mSg y1 = mSg y := congrArg (fun t => t.1) q1
  have a1 : mLv y1 = mLv y := congrArg (fun t => t.2.1) q1
  have a2 : mAr y1 = mAr y := congrArg (fun t => t.2.2.1) q1
  have a4 : mLa y1 = mLa y := congrArg (fun t => t.1) q2
  have a5 : mFe y1 = mFe y := congrArg (fun t => t.2.2.2.2) q2
  have h' : FI y1 := fi_same h q1 a5 (Nat.le_of_eq a4.symm)
  have ar : ∀ l, l ≤ mLv y1 → mAr (mNl n ns.length y1) l = mAr y1 l := fun l hl => if_neg (by omega)
  have ar' : mAr (mNl n ns.length y1) (mLv y1 + 1) = mLa y1 + 1 := if_pos rfl
  have fe : ∀ M, M ≤ mLa y1 → mFe (mNl n ns.length y1) M = mFe y1 M := fun M hM => if_neg (by omega)
  have fe' : mFe (mNl n ns.length y1) (mLa y1 + 1) = [] := if_pos rfl
  have hL : FI (mNl n ns.length y1) := by
    obtain ⟨k1, k2, k3, k4⟩ := h'
    refine ⟨fun i hi => ?_, fun l l' p1 p2 => ?_, fun l hl => ?_, fun l l1 l2 => ?_⟩
    · obtain ⟨l, p1, p2⟩ := k1 i hi
      exact ⟨l, Nat.le_succ_of_le p1, by rw [ar l p1]; exact p2⟩
    · have p2 : l' ≤ mLv y1 + 1 := p2
      rw [ar l (by omega)]
      by_cases c : l' = mLv y1 + 1
      · rw [c, ar']
        have := k3 l (by omega)
        omega
      · rw [ar l' (by omega)]; exact k2 l l' p1 (by omega)
    · have hl : l ≤ mLv y1 + 1 := hl
      show _ ≤ mLa y1 + 1
      by_cases c : l = mLv y1 + 1
      · rw [c, ar']; exact Nat.le_refl _
      · rw [ar l (by omega)]
        have := k3 l (by omega)
        omega
    · have l2 : l ≤ mLv y1 + 1 := l2
      by_cases c : l = mLv y1 + 1
      · subst c
        unfold fes
        rw [ar', fe']
        exact ⟨by simp, fun s hs => by simp at hs⟩
      · unfold fes
        rw [ar l (by omega), fe _ (k3 l (by omega))]
        exact k4 l l1 (by omega)
  obtain ⟨b1, b2, b3, b4⟩ := bi_ins (N := N) (w := (mSg y).length) ns (mNl n ns.length y1) (mNl n ns.length y1) rfl rfl rfl rfl
  have I4 := ins_S (ns.map (nCn N)) (mNl n ns.length y1)
  have i4 := fi_bi (N := N) (w := (mSg y).length) ns (mNl n ns.length y1) hL
  generalize hyi : (ns.map (nCn N)).foldl (fun y j => mIn j y) (mNl n ns.length y1) = yi at *
  generalize mBi N (mSg y).length ns (mNl n ns.length y1) = y4 at *
  have c1 : mSg y4 = mSg y ++ bM (ns.map (nCn N)) (mLa y + 1) 0 := by
    rw [show mSg y4 = mSg yi from congrArg (fun t => t.1) b2, I4.1]
    show mSg y1 ++ bM _ (mAr (mNl n ns.length y1) (mLv y1 + 1)) (mSl (mNl n ns.length y1) (mLv y1 + 1)) = _
    rw [ar', a0, a4, show mSl (mNl n ns.length y1) (mLv y1 + 1) = 0 from if_pos rfl]
  have c2 : mLv y4 = mLv y + 1 := by
    rw [show mLv y4 = mLv yi from congrArg (fun t => t.2.1) b2, I4.2.1]
    show mLv y1 + 1 = _
    rw [a1]
  have c3 : mAr y4 = mAr (mNl n ns.length y1) := by rw [show mAr y4 = mAr yi from congrArg (fun t => t.2.2.1) b2, I4.2.2.1]
  have c4 : mLa y4 = mLa y + 1 := by
    rw [show mLa y4 = mLa yi from congrArg (fun t => t.1) b3, I4.2.2.2.2.2.1]
    show mLa y1 + 1 = _
    rw [a4]
  have len4 : (mSg y4).length = (mSg y).length + ns.length := by rw [c1, List.length_append, bM_len, List.length_map]
  have M6 := bo_m hM bo m b y4 s2 ha i4.2.2.1
  have f6 := bo_f hM hS bo m b y4 s2 ha i4 (by omega)
  generalize mBo Fm bo y4 = y6 at *
  have lv6 : mLv y6 = mLv y + 1 := M6.1.2.1.trans c2
  have ar6 : ∀ l, l ≤ mLv y → mAr y6 l = mAr y l := fun l hl => by
    rw [M6.1.2.2.1 l (by omega), c3, ar l (by omega), a2]
  have ar6' : mAr y6 (mLv y + 1) = mLa y + 1 := by
    rw [M6.1.2.2.1 _ (by omega), c3, ← a1, ar', a4]
  refine ⟨fi_rest2 (c := (mSg y).length) f6.1 rfl (by show mLv y6 - 1 + 1 = mLv y6; omega) rfl rfl rfl (fun i hi1 hi2 => ?_) (fun i hi1 _ => ?_), fun M h3 h4 => ?_⟩
  · rw [M6.1.1, len4] at hi2
    unfold sgD
    rw [M6.1.1, c1, gd_app3 hi1, bM_get _ _ _ _ (by rw [List.length_map]; omega), lv6, ar6']
  · obtain ⟨l, p1, p2⟩ := h.1 i hi1
    refine ⟨l, by show l ≤ mLv y6 - 1; omega, ?_⟩
    rw [ar6 l p1]
    unfold sgD at p2 ⊢
    rw [M6.1.1, c1, gd_app1 hi1]
    exact p2
  · show (mFe y6 M).length ≤ 250
    have h4 : M ≤ mLa y6 := h4
    by_cases cM : M = mLa y + 1
    · obtain ⟨k1, k2⟩ := f6.1.2.2.2 (mLv y + 1) (by omega) (by omega)
      rw [ar6'] at k1 k2
      have := pige_nd (mSg y6).length (fes y6 (mLa y + 1)) k1 (fun s hs => (k2 s hs).1)
      have e : (fes y6 (mLa y + 1)).length = (mFe y6 (mLa y + 1)).length := List.length_map _
      have e2 : (mSg y6).length = (mSg y).length + ns.length := by rw [M6.1.1]; exact len4
      rw [cM]
      omega
    · exact f6.2 M (by omega) h4
end FIJ
