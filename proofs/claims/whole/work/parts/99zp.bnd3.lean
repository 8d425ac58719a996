/-! BUILD. How many slots the reference's lambdas have -/
def MSe (B : Nat) (y y' : MR) : Prop := mLs y' (mAr y (mLv y)) ≤ max (mLs y (mAr y (mLv y))) B ∧ (∀ M, mLa y < M → M ≤ mLa y' → mLs y' M ≤ 250) ∧ ∀ M, M ≤ mLa y → M ≠ mAr y (mLv y) → mLs y' M = mLs y M
def MSs (N : NS) (g : Nat) (Fm : Nat → MR → MR) : Prop := ∀ v m y B, Trb g N v m → 1 ≤ v → AI y → mSl y (mLv y) + 8 * g ≤ B → B ≤ 250 → MSe B y (Fm v y)
section MSL
variable {N : NS} {y y1 y2 y' : MR} {a b g m B n : Nat} {Fm : Nat → MR → MR}
theorem mse_tr (h1 : MSe B y y1) (h2 : MSe B y1 y2) (e1 : mLv y1 = mLv y) (e2 : mAr y1 (mLv y) = mAr y (mLv y)) (i : AI y) (hl : mLa y ≤ mLa y1) : MSe B y y2 := by
  obtain ⟨p1, p2, p3⟩ := h1
  obtain ⟨q1, q2, q3⟩ := h2
  rw [e1, e2] at q1 q3
  have hL := i _ (Nat.le_refl (mLv y))
  refine ⟨by omega, fun M h3 h4 => ?_, fun M h3 h4 => (q3 M (by omega) h4).trans (p3 M h3 h4)⟩
  by_cases c : M ≤ mLa y1
  · rw [q3 M c (by omega)]
    exact p2 M h3 c
  · exact q2 M (by omega) h4
theorem mse_same (h1 : mLs y1 = mLs y) (h2 : mLa y1 = mLa y) : MSe B y y1 := ⟨by rw [h1]; omega, fun M h3 h4 => by omega, fun M _ _ => by rw [h1]⟩
theorem bo_s (hM : MFs N g Fm) (hS : MSs N g Fm) : ∀ (l : List Nat) (a b : Nat) (y : MR), Sqn g N l a b → 1 ≤ a → AI y → mSl y (mLv y) + 8 * g ≤ B → B ≤ 250 → MSe B y (mBo Fm l y)
  | [], _, _, _, _, _, _, _, _ => mse_same rfl rfl
  | v :: l, a, b, y, hs, ha, hi, h1, h2 => by
    obtain ⟨q1, m, q2, q3, q4, q5⟩ := hs
    have M1 := hM v m y q2 (by omega) hi
    exact mse_tr (hS v m y B q2 (by omega) hi h1 h2) (bo_s hM hS l m b (Fm v y) q5 (by omega) (ai_ef M1 hi) (by rw [M1.1.2.1, M1.1.2.2.2 _ (Nat.le_refl _)]; exact h1) h2) M1.1.2.1 (M1.1.2.2.1 _ (Nat.le_refl _)) hi M1.2.1
theorem mlt_s (hM : MFs N g Fm) (hS : MSs N g Fm) {rec : Bool} : ∀ (ps bf : List Nat) (a b : Nat) (y : MR), Sqn g N (vls N ps) a b → 1 ≤ a → AI y → mSl y (mLv y) + 8 * g ≤ B → B ≤ 250 → MSe B y (mLt N Fm rec ps bf y)
  | [], _, _, _, _, _, _, _, _, _ => mse_same rfl rfl
  | p :: ps, bf, a, b, y, hs, ha, hi, h1, h2 => by
    obtain ⟨q1, m, q2, q3, q4, q5⟩ := hs
    have q1 : a ≤ prt N p 1 := q1
    have q3 : prt N p 1 < m := q3
    have e0 : (if rec then y else mBp N bf (prt N p 0) y).2.1 = y.2.1 ∧ (if rec then y else mBp N bf (prt N p 0) y).2.2.1 = y.2.2.1 := by
      split
      · exact ⟨rfl, rfl⟩
      · unfold mBp
        split <;> exact ⟨rfl, rfl⟩
    show MSe B y (mLt N Fm rec ps (bf ++ [nCn N (prt N p 0)]) (Fm (prt N p 1) (if rec then y else mBp N bf (prt N p 0) y)))
    generalize (if rec then y else mBp N bf (prt N p 0) y) = y0 at *
    have a1 : mLv y0 = mLv y := congrArg (fun t => t.2.1) e0.1
    have a2 : mAr y0 = mAr y := congrArg (fun t => t.2.2.1) e0.1
    have a3 : mSl y0 = mSl y := congrArg (fun t => t.2.2.2) e0.1
    have a4 : mLa y0 = mLa y := congrArg (fun t => t.1) e0.2
    have a5 : mLs y0 = mLs y := congrArg (fun t => t.2.2.2.1) e0.2
    have hi0 : AI y0 := by unfold AI; rw [a1, a2, a4]; exact hi
    have M1 := hM (prt N p 1) m y0 q2 (by omega) hi0
    refine mse_tr (mse_same (B := B) a5 a4) ?_ a1 (by rw [a2]) hi (Nat.le_of_eq a4.symm)
    exact mse_tr (hS (prt N p 1) m y0 B q2 (by omega) hi0 (by rw [a1, a3]; exact h1) h2) (mlt_s hM hS ps _ m b (Fm (prt N p 1) y0) q5 (by omega) (ai_ef M1 hi0) (by rw [M1.1.2.1, M1.1.2.2.2 _ (Nat.le_refl _), a1, a3]; exact h1) h2) M1.1.2.1 (M1.1.2.2.1 _ (Nat.le_refl _)) hi0 M1.2.1
theorem in_s {j : Nat} (h : mSl y (mLv y) + 1 ≤ B) : MSe B y (mIn j y) := by
  refine ⟨?_, fun M h3 h4 => absurd h4 (Nat.not_le.mpr h3), fun M _ hM => if_neg hM⟩
  show (if mAr y (mLv y) = mAr y (mLv y) then _ else _) ≤ _
  rw [if_pos rfl]
  omega
theorem ins_s : ∀ (js : List Nat) (y : MR), AI y → mSl y (mLv y) + js.length ≤ B → MSe B y (js.foldl (fun y j => mIn j y) y)
  | [], _, _, _ => mse_same rfl rfl
  | j :: js, y, hi, h => by
    rw [List.length_cons] at h
    rw [List.foldl_cons]
    have e1 : mSl (mIn j y) (mLv (mIn j y)) = mSl y (mLv y) + 1 := if_pos rfl
    exact mse_tr (in_s (by omega)) (ins_s js (mIn j y) hi (by rw [e1]; omega)) rfl rfl hi (Nat.le_refl _)
theorem bi_s {w : Nat} (ns : List Nat) (y : MR) (hi : AI y) (h : mSl y (mLv y) + ns.length ≤ B) : MSe B y (mBi N w ns y) := by
  obtain ⟨_, b2, b3, _⟩ := bi_ins (N := N) (w := w) ns y y rfl rfl rfl rfl
  have h1 := ins_s (B := B) (ns.map (nCn N)) y hi (by rw [List.length_map]; exact h)
  have e1 : mLs (mBi N w ns y) = mLs ((ns.map (nCn N)).foldl (fun y j => mIn j y) y) := congrArg (fun t => t.2.2.2.1) b3
  have e2 : mLa (mBi N w ns y) = mLa ((ns.map (nCn N)).foldl (fun y j => mIn j y) y) := congrArg (fun t => t.1) b3
  unfold MSe at h1 ⊢
  rw [e1, e2]
  exact h1
theorem let_s (hM : MFs N g Fm) (hS : MSs N g Fm) {rec : Bool} {ps bo : List Nat} (s1 : Sqn g N (vls N ps) a m) (s2 : Sqn g N bo m b) (ha : 1 ≤ a) (hps : ps.length ≤ 8) (hp : Prw N ps a b) (hi : AI y) (h1 : mSl y (mLv y) + 8 * (g + 1) ≤ B) (h2 : B ≤ 250) : MSe B y (mLet N Fm rec n ps bo y) := by
  have hnm := seq_le _ _ _ s1
  have hmb := seq_le _ _ _ s2
  have hiN : AI (mN1 n (nI (mSl y (mLv y))) y) := hi
  unfold mLet
  dsimp only
  cases rec
  · simp only [Bool.false_eq_true, if_false]
    have M3 := lt_m hM (rec := false) ps [] a m (mN1 n (nI (mSl y (mLv y))) y) s1 (Nat.le_refl _) hmb ha hp hiN
    have S3 := mlt_s (B := B) hM hS (rec := false) ps [] a m (mN1 n (nI (mSl y (mLv y))) y) s1 ha hiN (by show mSl y (mLv y) + _ ≤ _; omega) h2
    generalize mLt N Fm false ps [] (mN1 n (nI (mSl y (mLv y))) y) = y3 at *
    have S3 : MSe B y y3 := S3
    have lv3 : mLv y3 = mLv y := M3.1.2.1
    have sl3 : mSl y3 (mLv y3) = mSl y (mLv y) := by rw [lv3]; exact M3.1.2.2.2 _ (Nat.le_refl _)
    have ar3 : mAr y3 (mLv y) = mAr y (mLv y) := M3.1.2.2.1 _ (Nat.le_refl _)
    have hi3 : AI y3 := ai_ef M3 hiN
    have la3 : mLa y ≤ mLa y3 := M3.2.1
    have b4 := ins_m (N := N) (a := a) (b := b) (ps.map (fun p => nCn N (prt N p 0))) y3
    have I4 := ins_S (ps.map (fun p => nCn N (prt N p 0))) y3
    have S4 := ins_s (B := B) (ps.map (fun p => nCn N (prt N p 0))) y3 hi3 (by rw [List.length_map, sl3]; omega)
    generalize (ps.map (fun p => nCn N (prt N p 0))).foldl (fun y j => mIn j y) y3 = y4 at *
    have hi4 := ai_be b4 hi3
    have sl4 : mSl y4 (mLv y4) = mSl y (mLv y) + ps.length := by
      rw [I4.2.1, I4.2.2.2.1, sl3, List.length_map]
    have S5 := bo_s (B := B) hM hS bo m b y4 s2 (by omega) hi4 (by omega) h2
    have S34 := mse_tr S3 S4 lv3 ar3 hi la3
    have := mse_tr S34 S5 (I4.2.1.trans lv3) (by rw [I4.2.2.1]; exact ar3) hi (by rw [I4.2.2.2.2.2.1]; exact la3)
    exact this
  · simp only [if_true]
    have b2 := bi_m (N := N) (a := a) (b := b) (w := (mSg y).length) (ps.map (fun p => prt N p 0)) (mN1 n (nI (mSl y (mLv y))) y) (fun x hx => by
      obtain ⟨p, hp1, rfl⟩ := List.mem_map.mp hx
      exact hp p hp1)
    have S2 := bi_s (N := N) (B := B) (w := (mSg y).length) (ps.map (fun p => prt N p 0)) (mN1 n (nI (mSl y (mLv y))) y) hiN (by rw [List.length_map]; show mSl y (mLv y) + _ ≤ _; omega)
    generalize mBi N (mSg y).length (ps.map (fun p => prt N p 0)) (mN1 n (nI (mSl y (mLv y))) y) = y2 at *
    have S2 : MSe B y y2 := S2
    have hi2 := ai_be b2 hiN
    have lv2 : mLv y2 = mLv y := b2.2.1
    have ar2 : mAr y2 = mAr y := b2.2.2.1
    have sl2 : mSl y2 (mLv y2) = mSl y (mLv y) + ps.length := by
      rw [lv2]
      have := b2.2.2.2.2.1
      rw [List.length_map] at this
      exact this
    have la2 : mLa y2 = mLa y := b2.2.2.2.2.2.2.1
    have M3 := lt_m hM (rec := true) ps [] a m y2 s1 (Nat.le_refl _) hmb ha hp hi2
    have S3 := mlt_s (B := B) hM hS (rec := true) ps [] a m y2 s1 ha hi2 (by omega) h2
    generalize mLt N Fm true ps [] y2 = y3 at *
    have S5 := bo_s (B := B) hM hS bo m b y3 s2 (by omega) (ai_ef M3 hi2) (by rw [M3.1.2.1, M3.1.2.2.2 _ (Nat.le_refl _)]; omega) h2
    have S23 := mse_tr S2 S3 lv2 (by rw [ar2]) hi (Nat.le_of_eq la2.symm)
    exact mse_tr S23 S5 (M3.1.2.1.trans lv2) ((M3.1.2.2.1 _ (by rw [lv2]; exact Nat.le_refl _)).trans (by rw [ar2])) hi (by rw [← la2]; exact M3.2.1)
theorem lam_s (hM : MFs N g Fm) (hS : MSs N g Fm) {ns bo : List Nat} (s2 : Sqn g N bo m b) (ha : 1 ≤ m) (hns : ns.length ≤ 8) (hg : g ≤ 30) (hp : ∀ x, x ∈ ns → a ≤ x ∧ x < b) (hi : AI y) : MSe B y (mLam N Fm n ns bo y) := by
  obtain ⟨y1, e0, q1, q2⟩ : ∃ y1, y1 = mN1 n (nI (mLa y + 1)) (if 120 < mLa y + 1 then mW 6 (nQ N n) y else y) ∧ y1.2.1 = y.2.1 ∧ y1.2.2.1 = y.2.2.1 := by
    refine ⟨_, rfl, ?_⟩
    split <;> exact ⟨rfl, rfl⟩
  unfold mLam
  dsimp only
  rw [← e0]
  have a1 : mLv y1 = mLv y := congrArg (fun t => t.2.1) q1
  have a2 : mAr y1 = mAr y := congrArg (fun t => t.2.2.1) q1
  have a4 : mLa y1 = mLa y := congrArg (fun t => t.1) q2
  have a5 : mLs y1 = mLs y := congrArg (fun t => t.2.2.2.1) q2
  have hi1 : AI y1 := by unfold AI; rw [a1, a2, a4]; exact hi
  have ai2 : AI (mNl n ns.length y1) := fun l hl => by
    show updN (mAr y1) (mLv y1 + 1) (mLa y1 + 1) l ≤ mLa y1 + 1
    have hl : l ≤ mLv y1 + 1 := hl
    unfold updN
    by_cases c : l = mLv y1 + 1
    · rw [if_pos c]; exact Nat.le_refl _
    · rw [if_neg c]
      have := hi1 l (by omega)
      omega
  have slL : mSl (mNl n ns.length y1) (mLv (mNl n ns.length y1)) = 0 := if_pos rfl
  have arL : mAr (mNl n ns.length y1) (mLv (mNl n ns.length y1)) = mLa y1 + 1 := if_pos rfl
  have lsL : mLs (mNl n ns.length y1) (mLa y1 + 1) = 0 := if_pos rfl
  have b2 := bi_m (N := N) (a := a) (b := b) (w := (mSg y).length) ns (mNl n ns.length y1) hp
  have S2 := bi_s (N := N) (B := ns.length + 8 * g) (w := (mSg y).length) ns (mNl n ns.length y1) ai2 (by rw [slL]; omega)
  have hL4 : mLv (mBi N (mSg y).length ns (mNl n ns.length y1)) = mLv (mNl n ns.length y1) := b2.2.1
  have hsl : mSl (mBi N (mSg y).length ns (mNl n ns.length y1)) (mLv (mBi N (mSg y).length ns (mNl n ns.length y1))) = ns.length := by
    rw [hL4, b2.2.2.2.2.1, slL, Nat.zero_add]
  have S5 := bo_s (B := ns.length + 8 * g) hM hS bo m b (mBi N (mSg y).length ns (mNl n ns.length y1)) s2 ha (ai_be b2 ai2) (by omega) (by omega)
  have S := mse_tr S2 S5 hL4 (by rw [b2.2.2.1]) ai2 (Nat.le_of_eq b2.2.2.2.2.2.2.1.symm)
  obtain ⟨p1, p2, p3⟩ := S
  rw [arL] at p1 p3
  rw [lsL] at p1
  have laL : mLa (mNl n ns.length y1) = mLa y1 + 1 := rfl
  rw [laL] at p2 p3
  have old : ∀ M, M ≤ mLa y → mLs (mBo Fm bo (mBi N (mSg y).length ns (mNl n ns.length y1))) M = mLs y M := fun M hM => by
    rw [p3 M (by omega) (by omega)]
    show (if M = mLa y1 + 1 then 0 else mLs y1 M) = _
    rw [if_neg (by omega), a5]
  refine ⟨?_, fun M h3 h4 => ?_, fun M h3 _ => old M h3⟩
  · show mLs (mBo Fm bo (mBi N (mSg y).length ns (mNl n ns.length y1))) _ ≤ _
    rw [old _ (hi _ (Nat.le_refl _))]
    omega
  · show mLs (mBo Fm bo (mBi N (mSg y).length ns (mNl n ns.length y1))) M ≤ 250
    by_cases c : M = mLa y1 + 1
    · rw [c]; omega
    · exact p2 M (by omega) h4
theorem mF_s : ∀ (f g : Nat), g ≤ f → g ≤ 31 → ∀ (n b : Nat) (row : Bool) (y : MR) (B : Nat), Tr g N n b → b < 2000000000 → 1 ≤ n → AI y → mSl y (mLv y) + 8 * g ≤ B → B ≤ 250 → MSe B y (mF N f n row y)
  | 0, g, hg, _, n, b, row, y, B, h, _, _, _, _, _ => by
    have : g = 0 := by omega
    subst this
    exact h.elim
  | f + 1, 0, _, _, _, _, _, _, _, h, _, _, _, _, _ => h.elim
  | f + 1, g + 1, hg, hg3, n, b, row, y, B, h, hb, h1, hi, hs, hB => by
    have hlt := tr_lt _ _ _ _ h
    have hM : MFs N g (fun a => mF N f a false) := fun v m y ht hv hi => mF_e f g (by omega) v m false y ht.1 ht.2 hv hi
    have hS : MSs N g (fun a => mF N f a false) := fun v m y B ht hv hi h1 h2 => mF_s f g (by omega) (by omega) v m false y B ht.1 ht.2 hv hi h1 h2
    obtain ⟨c1, c2⟩ : (mCt N n y).2.1 = y.2.1 ∧ (mCt N n y).2.2.1 = y.2.2.1 := by
      unfold mCt
      split <;> exact ⟨rfl, rfl⟩
    have gen : ∀ {yc y' : MR}, yc.2.1 = y.2.1 → yc.2.2.1 = y.2.2.1 → MSe B yc y' → MSe B y y' := fun {yc y'} e1 e2 hh => by
      have a1 : mLv yc = mLv y := congrArg (fun t => t.2.1) e1
      have a2 : mAr yc = mAr y := congrArg (fun t => t.2.2.1) e1
      have a4 : mLa yc = mLa y := congrArg (fun t => t.1) e2
      have a5 : mLs yc = mLs y := congrArg (fun t => t.2.2.2.1) e2
      unfold MSe at hh ⊢
      rw [a1, a2, a4, a5] at hh
      exact hh
    have same : ∀ {y' : MR}, y'.2.2.1 = y.2.2.1 → MSe B y y' := fun {y'} e2 => mse_same (congrArg (fun t => t.2.2.2.1) e2) (congrArg (fun t => t.1) e2)
    have ic : AI (mCt N n y) := ai_ef (mef_Ct (N := N) (a := n) (b := b) (n := n) ⟨Nat.le_refl _, hlt⟩) hi
    have hsc : mSl (mCt N n y) (mLv (mCt N n y)) + 8 * (g + 1) ≤ B := by
      rw [show mSl (mCt N n y) = mSl y from congrArg (fun t => t.2.2.2) c1, show mLv (mCt N n y) = mLv y from congrArg (fun t => t.2.1) c1]
      exact hs
    have us : ∀ x, 1 ≤ x → MSe B (mCt N n y) (mUs N x (mCt N n y)) := fun x hx => by
      unfold mUs
      split
      · exact mse_same rfl rfl
      · split
        · exact mse_same rfl rfl
        · split
          · rename_i s _
            split
            · exact mse_same rfl rfl
            · have key : ∀ (l s : Nat) (y : MR), mLs (mFr l s y).2 = mLs y ∧ mLa (mFr l s y).2 = mLa y := by
                intro l
                induction l with
                | zero => intro s y; exact ⟨rfl, rfl⟩
                | succ l ih =>
                  intro s y
                  rw [mFr]
                  split
                  · exact ⟨rfl, rfl⟩
                  · split
                    · exact ⟨rfl, rfl⟩
                    · exact ih s y
              exact mse_same (key _ s _).1 (key _ s _).2
          · split <;> exact mse_same rfl rfl
    rw [mF]
    by_cases c5 : nK N n = 5
    · rw [if_pos c5]
      exact gen c1 c2 (us n h1)
    rw [if_neg c5]
    by_cases c6 : nK N n ≠ 6
    · rw [if_pos c6]; exact same c2
    rw [if_neg c6]
    have c6 : nK N n = 6 := Classical.byContradiction c6
    by_cases cs : shp N n (wrd N n) row = false
    · rw [if_pos cs]; exact same c2
    rw [if_neg cs]
    have cs : shp N n (wrd N n) row = true := by simpa using cs
    have hsq := frs_sqn _ _ _ (tr_pts h c6 hb).2.2 hb
    have hw := wrd_le (N := N) (n := n)
    by_cases w1 : wrd N n = 1
    · rw [if_pos w1]; exact same c2
    rw [if_neg w1]
    by_cases w2 : wrd N n = 2
    · rw [if_pos w2]
      rw [w2] at cs
      obtain ⟨l1, l2⟩ := shp_2 cs
      obtain ⟨m0, m1, e1, e2, e3, e4, e5, e6, e7, e8⟩ := big_tr h c6 hb (by omega)
      exact gen c1 c2 (lam_s hM hS e5 (by omega) (arN_2 l2).2.1 (by omega) (nms_of h c6 hb l1 l2) ic)
    rw [if_neg w2]
    by_cases w4 : wrd N n = 4
    · rw [if_pos w4]
      rw [w4] at cs
      obtain ⟨l1, l2⟩ := shp_4 cs
      obtain ⟨m, q1, q2⟩ := let_sq h c6 hb l1 l2
      exact gen c1 c2 (let_s (a := n) hM hS (seq_wk q1 (Nat.le_succ _)) q2 h1 (arP_2 l2).2.1 (prw_of h c6 hb l1 l2) ic hsc hB)
    rw [if_neg w4]
    by_cases w5 : wrd N n = 5
    · rw [if_pos w5]
      rw [w5] at cs
      obtain ⟨l1, l2⟩ := shp_5 cs
      obtain ⟨m, q1, q2⟩ := let_sq h c6 hb l1 l2
      exact gen c1 c2 (let_s (a := n) hM hS (seq_wk q1 (Nat.le_succ _)) q2 h1 (arP_2 l2).2.1 (prw_of h c6 hb l1 l2) ic hsc hB)
    rw [if_neg w5]
    by_cases w6 : wrd N n = 6
    · rw [if_pos w6]
      rw [w6] at cs
      obtain ⟨l1, l2⟩ := shp_6 cs
      obtain ⟨m1, t1, t2, t3, t4, _⟩ := three_tr h c6 hb l1
      have hl2 := tr_lt _ _ _ _ t1
      have e0 : MEf N n b (mCt N n y) (if nCn N (prt N n 1) < 30 then mW 5 (nQ N (prt N n 1)) (mCt N n y) else mUs N (prt N n 1) (mCt N n y)) := by
        split
        · exact mef_W (by omega)
        · exact us_e (by omega) h1
      have u0 : MSe B (mCt N n y) (if nCn N (prt N n 1) < 30 then mW 5 (nQ N (prt N n 1)) (mCt N n y) else mUs N (prt N n 1) (mCt N n y)) := by
        split
        · exact mse_same rfl rfl
        · exact us _ (by omega)
      exact gen c1 c2 (mse_tr u0 (hS _ b _ B ⟨t1, hb⟩ (by omega) (ai_ef e0 ic) (by rw [e0.1.2.1, e0.1.2.2.2 _ (Nat.le_refl _)]; omega) hB) e0.1.2.1 (e0.1.2.2.1 _ (Nat.le_refl _)) ic e0.2.1)
    rw [if_neg w6]
    by_cases w10 : wrd N n = 10
    · rw [if_pos w10]
      rw [w10] at cs
      obtain ⟨l0, l1, l2⟩ := shp_10 cs
      obtain ⟨m1, t1, t2, t3, t4, _⟩ := three_tr h c6 hb l1
      have hl2 := tr_lt _ _ _ _ t1
      have e0 : MEf N n b (mCt N n y) (mMn (prt N n 1) 3 (dA N (nCn N (prt N n 1))) (if nCn N (prt N n 1) < 30 then mW 5 (nQ N (prt N n 1)) (mCt N n y) else mCt N n y)) := by
        split
        · exact mef_tr (mef_W (by omega)) (mef_Mn (by omega) h1)
        · exact mef_Mn (by omega) h1
      have u0 : MSe B (mCt N n y) (mMn (prt N n 1) 3 (dA N (nCn N (prt N n 1))) (if nCn N (prt N n 1) < 30 then mW 5 (nQ N (prt N n 1)) (mCt N n y) else mCt N n y)) := by
        split <;> exact mse_same rfl rfl
      exact gen c1 c2 (mse_tr u0 (hS _ b _ B ⟨t1, hb⟩ (by omega) (ai_ef e0 ic) (by rw [e0.1.2.1, e0.1.2.2.2 _ (Nat.le_refl _)]; omega) hB) e0.1.2.1 (e0.1.2.2.1 _ (Nat.le_refl _)) ic e0.2.1)
    rw [if_neg w10]
    by_cases w0 : wrd N n = 0
    · rw [if_pos w0]
      exact gen c1 c2 (bo_s hM hS _ _ _ _ hsq (by omega) ic (by omega) hB)
    · rw [if_neg w0]
      exact gen c1 c2 (bo_s hM hS _ _ _ _ (sqn_drop 1 _ _ _ hsq) (by omega) ic (by omega) hB)
end MSL
