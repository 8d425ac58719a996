/-! BUILD. What the reference's analysis keeps -/
theorem wmn_lt {w : Option (Nat × Nat)} {k1 p1 k q : Nat} (h : q < p1) : wMn (wMn w k1 p1) k q = wMn w k q := by
  unfold wMn
  cases w with
  | none =>
    dsimp only
    rw [if_neg (by omega)]
  | some x =>
    obtain ⟨k0, p0⟩ := x
    dsimp only
    by_cases c : p0 < p1 ∨ (p0 = p1 ∧ k0 ≤ k1)
    · rw [if_pos c]
    · rw [if_neg c]
      dsimp only
      rw [if_neg (by omega), if_neg (by omega)]
def AI (y : MR) : Prop := ∀ l, l ≤ mLv y → mAr y l ≤ mLa y
def MEf (N : NS) (a b : Nat) (y y' : MR) : Prop :=
  (mSg y' = mSg y ∧ mLv y' = mLv y ∧ (∀ l, l ≤ mLv y → mAr y' l = mAr y l) ∧ (∀ l, l ≤ mLv y → mSl y' l = mSl y l)) ∧ mLa y ≤ mLa y' ∧ (∀ m, (m + 1 < a ∨ b ≤ m + 1) → mMe y' m = mMe y m ∧ mNu y' m = mNu y m) ∧ (∀ M, M ≤ mLa y → mNd y' M = mNd y M ∧ mNm y' M = mNm y M ∧ mLs y M ≤ mLs y' M ∧ mFe y M <+: mFe y' M) ∧ (∀ M, M ≤ mLa y → (∀ l, l ≤ mLv y → M ≠ mAr y l) → mLs y' M = mLs y M ∧ mFe y' M = mFe y M) ∧ ∀ k q, (∀ m, a ≤ m → m < b → q < nQ N m) → wMn (mWr y') k q = wMn (mWr y) k q
section MPS
variable {N : NS} {a b m : Nat} {y y1 y2 : MR}
theorem mef_rf : MEf N a b y y := ⟨⟨rfl, rfl, fun _ _ => rfl, fun _ _ => rfl⟩, Nat.le_refl _, fun _ _ => ⟨rfl, rfl⟩, fun _ _ => ⟨rfl, rfl, Nat.le_refl _, List.prefix_refl _⟩, fun _ _ _ => ⟨rfl, rfl⟩, fun _ _ _ => rfl⟩
theorem mef_wk {a' b' : Nat} (h : MEf N a b y y1) (h1 : a' ≤ a) (h2 : b ≤ b') : MEf N a' b' y y1 := by
  obtain ⟨p1, p2, p3, p4, p5, p6⟩ := h
  exact ⟨p1, p2, fun m hm => p3 m (by omega), p4, p5, fun k q hq => p6 k q (fun m hm1 hm2 => hq m (by omega) (by omega))⟩
theorem mef_tr (h1 : MEf N a b y y1) (h2 : MEf N a b y1 y2) : MEf N a b y y2 := by
  obtain ⟨⟨p1, p2, p3, p4⟩, p5, p6, p7, p8, p9⟩ := h1
  obtain ⟨⟨q1, q2, q3, q4⟩, q5, q6, q7, q8, q9⟩ := h2
  refine ⟨⟨q1.trans p1, q2.trans p2, fun l hl => (q3 l (by omega)).trans (p3 l hl), fun l hl => (q4 l (by omega)).trans (p4 l hl)⟩, by omega, fun m hm => ⟨(q6 m hm).1.trans (p6 m hm).1, (q6 m hm).2.trans (p6 m hm).2⟩, fun M hM => ?_, fun M hM hl => ?_, fun k q hq => (q9 k q hq).trans (p9 k q hq)⟩
  · obtain ⟨a1, a2, a3, a4⟩ := p7 M hM
    obtain ⟨b1, b2, b3, b4⟩ := q7 M (by omega)
    exact ⟨b1.trans a1, b2.trans a2, by omega, a4.trans b4⟩
  · obtain ⟨a1, a2⟩ := p8 M hM hl
    obtain ⟨b1, b2⟩ := q8 M (by omega) (fun l hl2 => by rw [p3 l (by omega)]; exact hl l (by omega))
    exact ⟨b1.trans a1, b2.trans a2⟩
theorem ai_ef (h : MEf N a b y y1) (i : AI y) : AI y1 := by
  obtain ⟨⟨p1, p2, p3, p4⟩, p5, _⟩ := h
  intro l hl
  rw [p2] at hl
  rw [p3 l hl]
  exact Nat.le_trans (i l hl) p5
theorem mef_W {k n : Nat} (h : a ≤ n ∧ n < b) : MEf N a b y (mW k (nQ N n) y) := ⟨⟨rfl, rfl, fun _ _ => rfl, fun _ _ => rfl⟩, Nat.le_refl _, fun _ _ => ⟨rfl, rfl⟩, fun _ _ => ⟨rfl, rfl, Nat.le_refl _, List.prefix_refl _⟩, fun _ _ _ => ⟨rfl, rfl⟩, fun _ _ hq => wmn_lt (hq n h.1 h.2)⟩
theorem mef_Ct {n : Nat} (h : a ≤ n ∧ n < b) : MEf N a b y (mCt N n y) := by
  unfold mCt
  split
  · exact ⟨⟨rfl, rfl, fun _ _ => rfl, fun _ _ => rfl⟩, Nat.le_refl _, fun _ _ => ⟨rfl, rfl⟩, fun _ _ => ⟨rfl, rfl, Nat.le_refl _, List.prefix_refl _⟩, fun _ _ _ => ⟨rfl, rfl⟩, fun _ _ hq => wmn_lt (hq n h.1 h.2)⟩
  · exact ⟨⟨rfl, rfl, fun _ _ => rfl, fun _ _ => rfl⟩, Nat.le_refl _, fun _ _ => ⟨rfl, rfl⟩, fun _ _ => ⟨rfl, rfl, Nat.le_refl _, List.prefix_refl _⟩, fun _ _ _ => ⟨rfl, rfl⟩, fun _ _ _ => rfl⟩
theorem mef_Mn {n : Nat} {me nu : Int32} (h : a ≤ n ∧ n < b) (ha : 1 ≤ a) : MEf N a b y (mMn n me nu y) := ⟨⟨rfl, rfl, fun _ _ => rfl, fun _ _ => rfl⟩, Nat.le_refl _, fun m hm => ⟨if_neg (by omega), if_neg (by omega)⟩, fun _ _ => ⟨rfl, rfl, Nat.le_refl _, List.prefix_refl _⟩, fun _ _ _ => ⟨rfl, rfl⟩, fun _ _ _ => rfl⟩
theorem mef_N1 {n : Nat} {nu : Int32} (h : a ≤ n ∧ n < b) (ha : 1 ≤ a) : MEf N a b y (mN1 n nu y) := ⟨⟨rfl, rfl, fun _ _ => rfl, fun _ _ => rfl⟩, Nat.le_refl _, fun m hm => ⟨rfl, if_neg (by omega)⟩, fun _ _ => ⟨rfl, rfl, Nat.le_refl _, List.prefix_refl _⟩, fun _ _ _ => ⟨rfl, rfl⟩, fun _ _ _ => rfl⟩
/-- a binding comes among those that levels keep -/
theorem fr_e : ∀ (l s : Nat) (y : MR), l ≤ mLv y → MEf N a b y (mFr l s y).2 ∧ mLa (mFr l s y).2 = mLa y ∧ (mFr l s y).2.1 = y.1 ∧ (mFr l s y).2.2.1 = y.2.1 ∧ (mFr l s y).2.2.2.2 = y.2.2.2
  | 0, s, y, _ => ⟨mef_rf, rfl, rfl, rfl, rfl⟩
  | l + 1, s, y, hl => by
    have put : ∀ (y0 : MR) (x : SGe), MEf N a b y y0 → y0.2.1 = y.2.1 → MEf N a b y (mFs y0 (mAr y (l + 1)) (mFe y0 (mAr y (l + 1)) ++ [x])) := fun y0 x h e => by
      refine mef_tr h ⟨⟨rfl, rfl, fun _ _ => rfl, fun _ _ => rfl⟩, Nat.le_refl _, fun _ _ => ⟨rfl, rfl⟩, fun M _ => ⟨rfl, rfl, Nat.le_refl _, ?_⟩, fun M _ hM => ⟨rfl, ?_⟩, fun _ _ _ => rfl⟩
      · show _ <+: (if M = mAr y (l + 1) then _ else _)
        split
        · rename_i c
          rw [c]
          exact List.prefix_append _ _
        · exact List.prefix_refl _
      · show (if M = mAr y (l + 1) then _ else _) = _
        have e1 : mLv y0 = mLv y := congrArg (fun s => s.2.1) e
        have e2 : mAr y0 = mAr y := congrArg (fun s => s.2.2.1) e
        exact if_neg (by have := hM (l + 1) (by omega); rw [e2] at this; exact this)
    rw [mFr]
    split
    · exact ⟨mef_rf, rfl, rfl, rfl, rfl⟩
    · split
      · exact ⟨put y _ mef_rf rfl, rfl, rfl, rfl, rfl⟩
      · obtain ⟨i1, i2, i3, i4, i5⟩ := fr_e l s y (by omega)
        exact ⟨put _ _ i1 i4, i2, i3, i4, i5⟩
theorem us_e {n : Nat} (h : a ≤ n ∧ n < b) (ha : 1 ≤ a) : MEf N a b y (mUs N n y) := by
  unfold mUs
  split
  · exact mef_W h
  · split
    · exact mef_Mn h ha
    · split
      · rename_i s hs
        split
        · exact mef_Mn h ha
        · exact mef_tr (fr_e (mLv y) s y (Nat.le_refl _)).1 (mef_Mn h ha)
      · split
        · exact mef_Mn h ha
        · exact mef_W h
theorem bs_e {n w : Nat} (h : a ≤ n ∧ n < b) : MEf N a b y (mBs N n w y) ∧ (mBs N n w y).2.1 = y.2.1 ∧ (mBs N n w y).2.2.1 = y.2.2.1 ∧ (mBs N n w y).1 = y.1 := by
  unfold mBs
  split
  · exact ⟨mef_W h, rfl, rfl, rfl⟩
  · exact ⟨mef_rf, rfl, rfl, rfl⟩
theorem bp_m {n : Nat} {bf : List Nat} (h : a ≤ n ∧ n < b) : MEf N a b y (mBp N bf n y) := by
  unfold mBp
  split
  · exact mef_W h
  · exact mef_rf
/-- bindings come into sight at the level where they are bound -/
def MBe (N : NS) (a b k : Nat) (y y' : MR) : Prop := (∃ t, mSg y' = mSg y ++ t ∧ t.length = k) ∧ mLv y' = mLv y ∧ mAr y' = mAr y ∧ (∀ l, l < mLv y → mSl y' l = mSl y l) ∧ mSl y' (mLv y) = mSl y (mLv y) + k ∧ y'.1 = y.1 ∧ mLa y' = mLa y ∧ mNd y' = mNd y ∧ mNm y' = mNm y ∧ mFe y' = mFe y ∧ (∀ M, mLs y M ≤ mLs y' M) ∧ (∀ M, M ≠ mAr y (mLv y) → mLs y' M = mLs y M) ∧ (mSl y (mLv y) ≤ mLs y (mAr y (mLv y)) → mSl y' (mLv y) ≤ mLs y' (mAr y (mLv y))) ∧ ∀ k q, (∀ m, a ≤ m → m < b → q < nQ N m) → wMn (mWr y') k q = wMn (mWr y) k q
theorem mbe_tr {k1 k2 : Nat} (h1 : MBe N a b k1 y y1) (h2 : MBe N a b k2 y1 y2) : MBe N a b (k1 + k2) y y2 := by
  obtain ⟨⟨t, p1, p1'⟩, p2, p3, p4, p5, p6, p7, p8, p9, p10, p11, p12, p13, p14⟩ := h1
  obtain ⟨⟨u, q1, q1'⟩, q2, q3, q4, q5, q6, q7, q8, q9, q10, q11, q12, q13, q14⟩ := h2
  rw [p2] at q2 q4 q5 q12 q13
  rw [p3] at q12 q13
  refine ⟨⟨t ++ u, by rw [q1, p1, List.append_assoc], by rw [List.length_append, p1', q1']⟩, q2, q3.trans p3, fun l hl => (q4 l hl).trans (p4 l hl), by rw [q5, p5]; omega, q6.trans p6, q7.trans p7, q8.trans p8, q9.trans p9, q10.trans p10, fun M => Nat.le_trans (p11 M) (q11 M), fun M hM => (q12 M hM).trans (p12 M hM), fun h => q13 (p13 h), fun k q hq => (q14 k q hq).trans (p14 k q hq)⟩
theorem mbe_In {j : Nat} : MBe N a b 1 y (mIn j y) := by
  refine ⟨⟨[_], rfl, rfl⟩, rfl, rfl, fun l hl => if_neg (by omega), if_pos rfl, rfl, rfl, rfl, rfl, rfl, fun M => ?_, fun M hM => if_neg hM, fun _ => ?_, fun _ _ _ => rfl⟩
  · show _ ≤ (if M = _ then _ else _)
    split
    · rename_i c
      rw [c]
      exact Nat.le_max_left _ _
    · exact Nat.le_refl _
  · show (if mLv y = mLv y then _ else _) ≤ (if mAr y (mLv y) = mAr y (mLv y) then _ else _)
    rw [if_pos rfl, if_pos rfl]
    exact Nat.le_max_right _ _
theorem mbe_0 : MBe N a b 0 y y := ⟨⟨[], (List.append_nil _).symm, rfl⟩, rfl, rfl, fun _ _ => rfl, rfl, rfl, rfl, rfl, rfl, rfl, fun _ => Nat.le_refl _, fun _ _ => rfl, fun h => h, fun _ _ _ => rfl⟩
theorem mbe_bs {n w : Nat} (h : a ≤ n ∧ n < b) : MBe N a b 0 y (mBs N n w y) := by
  unfold mBs
  split
  · exact ⟨⟨[], (List.append_nil _).symm, rfl⟩, rfl, rfl, fun _ _ => rfl, rfl, rfl, rfl, rfl, rfl, rfl, fun _ => Nat.le_refl _, fun _ _ => rfl, fun h => h, fun _ _ hq => wmn_lt (hq n h.1 h.2)⟩
  · exact mbe_0
theorem bi_m {w : Nat} : ∀ (l : List Nat) (y : MR), (∀ n, n ∈ l → a ≤ n ∧ n < b) → MBe N a b l.length y (mBi N w l y)
  | [], _, _ => mbe_0
  | n :: l, y, h => by
    have h1 := mbe_tr (mbe_bs (N := N) (w := w) (y := y) (h n (by simp))) (mbe_In (N := N) (j := nCn N n))
    have h2 := mbe_tr h1 (bi_m (w := w) l _ (fun x hx => h x (List.mem_cons_of_mem _ hx)))
    rw [Nat.zero_add, Nat.add_comm] at h2
    exact h2
theorem ins_m : ∀ (l : List Nat) (y : MR), MBe N a b l.length y (l.foldl (fun y j => mIn j y) y)
  | [], _ => mbe_0
  | n :: l, y => by
    have h2 := mbe_tr (mbe_In (N := N) (a := a) (b := b) (y := y) (j := n)) (ins_m l (mIn n y))
    rw [Nat.add_comm] at h2
    exact h2
/-- bindings, and out of sight again -/
theorem blk_m {k : Nat} {y4 y5 : MR} (h1 : MBe N a b k y y4) (h2 : MEf N a b y4 y5) : MEf N a b y (mSs (mSl y (mLv y)) (mTk (mSg y).length y5)) := by
  obtain ⟨⟨t, p1, p1'⟩, p2, p3, p4, p5, p6, p7, p8, p9, p10, p11, p12, p13, p14⟩ := h1
  obtain ⟨⟨q1, q2, q3, q4⟩, q5, q6, q7, q8, q9⟩ := h2
  have e1 : mMe y4 = mMe y ∧ mNu y4 = mNu y := ⟨congrArg (fun s => s.1) p6, congrArg (fun s => s.2) p6⟩
  rw [p2] at q2 q3 q4 q8
  refine ⟨⟨?_, q2, fun l hl => ?_, fun l hl => ?_⟩, ?_, fun m hm => ?_, fun M hM => ?_, fun M hM hl => ?_, fun k q hq => ?_⟩
  · show (mSg y5).take (mSg y).length = _
    rw [q1, p1, List.take_left']
    rfl
  · show mAr y5 l = _
    rw [q3 l hl, p3]
  · show updN (mSl y5) (mLv y5) (mSl y (mLv y)) l = _
    unfold updN
    rw [q2]
    by_cases c : l = mLv y
    · rw [if_pos c, c]
    · rw [if_neg c, q4 l hl, p4 l (by omega)]
  · show mLa y ≤ mLa y5
    omega
  · show mMe y5 m = _ ∧ mNu y5 m = _
    rw [(q6 m hm).1, (q6 m hm).2, e1.1, e1.2]
    exact ⟨rfl, rfl⟩
  · obtain ⟨b1, b2, b3, b4⟩ := q7 M (by omega)
    show mNd y5 M = _ ∧ mNm y5 M = _ ∧ _ ≤ mLs y5 M ∧ _ <+: mFe y5 M
    rw [p8] at b1
    rw [p9] at b2
    rw [p10] at b4
    exact ⟨b1, b2, Nat.le_trans (p11 M) b3, b4⟩
  · obtain ⟨b1, b2⟩ := q8 M (by omega) (fun l hl2 => by rw [p3]; exact hl l hl2)
    show mLs y5 M = _ ∧ mFe y5 M = _
    rw [b1, b2, p10]
    exact ⟨p12 M (hl _ (Nat.le_refl _)), rfl⟩
  · exact (q9 k q hq).trans (p14 k q hq)
def MFs (N : NS) (g : Nat) (F : Nat → MR → MR) : Prop := ∀ v m y, Trb g N v m → 1 ≤ v → AI y → MEf N v m y (F v y)
variable {g : Nat} {F : Nat → MR → MR}
theorem bo_m (hF : MFs N g F) : ∀ (l : List Nat) (a b : Nat) (y : MR), Sqn g N l a b → 1 ≤ a → AI y → MEf N a b y (mBo F l y)
  | [], _, _, _, _, _, _ => mef_rf
  | v :: l, a, b, y, hs, ha, hi => by
    obtain ⟨h1, m, h2, h3, h4, h5⟩ := hs
    have e1 := hF v m y h2 (by omega) hi
    have e2 := bo_m hF l m b (F v y) h5 (by omega) (ai_ef e1 hi)
    exact mef_tr (mef_wk e1 h1 h4) (mef_wk e2 (by omega) (Nat.le_refl _))
theorem ai_be {k : Nat} (h : MBe N a b k y y1) (i : AI y) : AI y1 := by
  obtain ⟨p1, p2, p3, p4, p5, p6, p7, _⟩ := h
  intro l hl
  rw [p2] at hl
  rw [p3, p7]
  exact i l hl
/-- names and values of pairs lie within -/
def Prw (N : NS) (ps : List Nat) (a b : Nat) : Prop := ∀ p, p ∈ ps → a ≤ prt N p 0 ∧ prt N p 0 < b
theorem lt_m (hF : MFs N g F) {rec : Bool} {a0 b0 : Nat} : ∀ (ps bf : List Nat) (a b : Nat) (y : MR), Sqn g N (vls N ps) a b → a0 ≤ a → b ≤ b0 → 1 ≤ a0 → Prw N ps a0 b0 → AI y → MEf N a0 b0 y (mLt N F rec ps bf y)
  | [], _, _, _, _, _, _, _, _, _, _ => mef_rf
  | p :: ps, bf, a, b, y, hs, ha, hb, h1, hp, hi => by
    obtain ⟨s1, m, s2, s3, s4, s5⟩ := hs
    have s1 : a ≤ prt N p 1 := s1
    have s3 : prt N p 1 < m := s3
    have e0 : MEf N a0 b0 y (if rec then y else mBp N bf (prt N p 0) y) := by
      split
      · exact mef_rf
      · exact bp_m (hp p (by simp))
    have e1 := hF (prt N p 1) m _ s2 (by omega) (ai_ef e0 hi)
    have e01 := mef_tr e0 (mef_wk e1 (by omega) (by omega))
    exact mef_tr e01 (lt_m hF ps (bf ++ [nCn N (prt N p 0)]) m b _ s5 (by omega) hb h1 (fun q hq => hp q (List.mem_cons_of_mem _ hq)) (ai_ef e01 hi))
theorem let_m (hF : MFs N g F) {rec : Bool} {n m : Nat} {ps bo : List Nat} (hn : a ≤ n ∧ n < b) (ha : 1 ≤ a) (hs1 : Sqn g N (vls N ps) (n + 1) m) (hs2 : Sqn g N bo m b) (hp : Prw N ps a b) (hi : AI y) : MEf N a b y (mLet N F rec n ps bo y) := by
  have hmb := seq_le _ _ _ hs2
  have hnm := seq_le _ _ _ hs1
  have e1 : MEf N a b y (mN1 n (nI (mSl y (mLv y))) y) := mef_N1 hn ha
  unfold mLet
  dsimp only
  cases rec
  · simp only [Bool.false_eq_true, if_false]
    have e3 := mef_tr e1 (lt_m hF (rec := false) ps [] (n + 1) m _ hs1 (by omega) hmb ha hp (ai_ef e1 hi))
    generalize mLt N F false ps [] (mN1 n (nI (mSl y (mLv y))) y) = y3 at *
    have b4 := ins_m (N := N) (a := a) (b := b) (ps.map (fun p => nCn N (prt N p 0))) y3
    have e5 := bo_m hF bo m b _ hs2 (by omega) (ai_be b4 (ai_ef e3 hi))
    have := blk_m b4 (mef_wk e5 (by omega) (Nat.le_refl _))
    rw [e3.1.1, e3.1.2.1, e3.1.2.2.2 (mLv y) (Nat.le_refl _)] at this
    exact mef_tr e3 this
  · simp only [if_true]
    have b2 := bi_m (N := N) (a := a) (b := b) (w := (mSg y).length) (ps.map (fun p => prt N p 0)) (mN1 n (nI (mSl y (mLv y))) y) (fun x hx => by
      obtain ⟨p, hp1, rfl⟩ := List.mem_map.mp hx
      exact hp p hp1)
    have e3 := lt_m hF (rec := true) ps [] (n + 1) m _ hs1 (by omega) hmb ha hp (ai_be b2 (ai_ef e1 hi))
    have e5 := bo_m hF bo m b _ hs2 (by omega) (ai_ef e3 (ai_be b2 (ai_ef e1 hi)))
    exact mef_tr e1 (blk_m b2 (mef_tr e3 (mef_wk e5 (by omega) (Nat.le_refl _))))
theorem lam_m (hF : MFs N g F) {n m : Nat} {ns bo : List Nat} (hn : a ≤ n ∧ n < b) (ha : 1 ≤ a) (hs : Sqn g N bo m b) (hm : a ≤ m) (hp : ∀ x, x ∈ ns → a ≤ x ∧ x < b) (hi : AI y) : MEf N a b y (mLam N F n ns bo y) := by
  have hmb := seq_le _ _ _ hs
  have e0 : MEf N a b y (mN1 n (nI (mLa y + 1)) (if 120 < mLa y + 1 then mW 6 (nQ N n) y else y)) ∧ mLa (mN1 n (nI (mLa y + 1)) (if 120 < mLa y + 1 then mW 6 (nQ N n) y else y)) = mLa y := by
    split
    · exact ⟨mef_tr (mef_W hn) (mef_N1 hn ha), rfl⟩
    · exact ⟨mef_N1 hn ha, rfl⟩
  unfold mLam
  dsimp only
  generalize mN1 n (nI (mLa y + 1)) (if 120 < mLa y + 1 then mW 6 (nQ N n) y else y) = y1 at *
  obtain ⟨e0, la1⟩ := e0
  have ai1 := ai_ef e0 hi
  have ai2 : AI (mNl n ns.length y1) := fun l hl => by
    show updN (mAr y1) (mLv y1 + 1) (mLa y1 + 1) l ≤ mLa y1 + 1
    have hl : l ≤ mLv y1 + 1 := hl
    unfold updN
    by_cases c : l = mLv y1 + 1
    · rw [if_pos c]; exact Nat.le_refl _
    · rw [if_neg c]
      have := ai1 l (by omega)
      omega
  have b2 := bi_m (N := N) (a := a) (b := b) (w := (mSg y).length) ns (mNl n ns.length y1) hp
  have e5 := mef_wk (bo_m hF bo m b _ hs (by omega) (ai_be b2 ai2)) hm (Nat.le_refl _)
  refine mef_tr e0 ?_
  rw [← e0.1.1] at b2 e5 ⊢
  generalize mBi N (mSg y1).length ns (mNl n ns.length y1) = y4 at *
  generalize mBo F bo y4 = y5 at *
  obtain ⟨⟨t, p1, p1'⟩, p2, p3, p4, p5, p6, p7, p8, p9, p10, p11, p12, p13, p14⟩ := b2
  obtain ⟨⟨q1, q2, q3, q4⟩, q5, q6, q7, q8, q9⟩ := e5
  have u1 : mMe y4 = mMe y1 ∧ mNu y4 = mNu y1 := ⟨congrArg (fun s => s.1) p6, congrArg (fun s => s.2) p6⟩
  have p2 : mLv y4 = mLv y1 + 1 := p2
  have p7 : mLa y4 = mLa y1 + 1 := p7
  have ar4 : ∀ l, l ≤ mLv y1 → mAr y4 l = mAr y1 l := fun l hl => by
    rw [p3]
    exact if_neg (by omega)
  have ar5 : mAr y4 (mLv y1 + 1) = mLa y1 + 1 := by
    rw [p3]
    exact if_pos rfl
  have nl1 : mAr (mNl n ns.length y1) (mLv (mNl n ns.length y1)) = mLa y1 + 1 := if_pos rfl
  rw [nl1] at p12
  refine ⟨⟨?_, ?_, fun l hl => ?_, fun l hl => ?_⟩, ?_, fun m hm => ?_, fun M hM => ?_, fun M hM hl => ?_, fun k q hq => ?_⟩
  · show (mSg y5).take (mSg y1).length = _
    rw [q1, p1]
    show (mSg y1 ++ t).take (mSg y1).length = _
    rw [List.take_left']
    rfl
  · show mLv y5 - 1 = _
    omega
  · show mAr y5 l = _
    rw [q3 l (by omega), ar4 l hl]
  · show mSl y5 l = _
    rw [q4 l (by omega), p4 l (by show l < mLv y1 + 1; omega)]
    show updN (mSl y1) (mLv y1 + 1) 0 l = _
    exact if_neg (by omega)
  · show mLa y1 ≤ mLa y5
    omega
  · show mMe y5 m = _ ∧ mNu y5 m = _
    rw [(q6 m hm).1, (q6 m hm).2, u1.1, u1.2]
    exact ⟨rfl, rfl⟩
  · obtain ⟨b1, b2, b3, b4⟩ := q7 M (by omega)
    show mNd y5 M = _ ∧ mNm y5 M = _ ∧ _ ≤ mLs y5 M ∧ _ <+: mFe y5 M
    rw [p8] at b1
    rw [p9] at b2
    rw [p10] at b4
    have hne : ¬ M = mLa y1 + 1 := by omega
    refine ⟨b1.trans (if_neg hne), b2.trans (if_neg hne), ?_, ?_⟩
    · have h1 : mLs (mNl n ns.length y1) M = mLs y1 M := if_neg hne
      have := p11 M
      omega
    · have h1 : mFe (mNl n ns.length y1) M = mFe y1 M := if_neg hne
      rw [h1] at b4
      exact b4
  · have hne : ¬ M = mLa y1 + 1 := by omega
    obtain ⟨b1, b2⟩ := q8 M (by omega) (fun l hl2 => by
      rw [p2] at hl2
      by_cases c : l = mLv y1 + 1
      · rw [c, ar5]; exact hne
      · rw [ar4 l (by omega)]; exact hl l (by omega))
    show mLs y5 M = _ ∧ mFe y5 M = _
    rw [b1, b2, p10, p12 M hne]
    exact ⟨if_neg hne, if_neg hne⟩
  · exact (q9 k q hq).trans (p14 k q hq)
end MPS
