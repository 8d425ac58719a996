/-! boxes found again; new boxes -/
/-- all but the boxes' rows, the slots and the first free box is alike -/
def Fr (h h' : Hp) : Prop := hR h' = hR h ∧ hL h' = hL h ∧ (∀ a, a < 130 → hK h' a = hK h a) ∧ (∀ a, a < 130 → a ≠ 119 → a ≠ 120 → a ≠ 121 → hA h' a = hA h a ∧ hB h' a = hB h a ∧ hN h' a = hN h a) ∧ (∀ a i, ¬ (a = 59 ∧ i = 42) → hI h' a i = hI h a i) ∧ hn h ≤ hn h'
/-- box b holds v and is nobody's -/
def NBx (sl : List Nat) (bx : List Int64) (ps : List (Nat × List Nat)) (h : Hp) (b : Nat) (v : Int64) : Prop := b < hN h 119 ∧ hB h 119 b = v ∧ ∃ rl fl, Bxs sl bx ps h rl fl ∧ b ∉ fl ∧ ∀ b', (b' + 2 ∈ sl ∨ b' ∈ kfl ps) → rl b' ≠ b
section REQ
variable {h h' : Hp} {Q : Option Value → Hp → Prop} {d : Nat} {G : PG} {q : Nat} {qv : Nat → Int64} {n : Nat} {A : Option Nat × Int64 × List TD × List Int64} {v : Int64} {sl sl' : List Nat} {bs : Nat} {pr : Option Nat} {bx bx' : List Int64} {ps : List (Nat × List Nat)} {rl : Nat → Nat} {fl : List Nat} {pa : List (Int64 × Int64)} {ce : Nat} {gr : List Int64} {P : List Int32 × List Int32 × Nat × Nat × Nat × Int64 × Nat}
theorem pige_nd : ∀ (n : Nat) (l : List Nat), l.Nodup → (∀ x, x ∈ l → x < n) → l.length ≤ n
  | 0, l, _, h => by
    cases l with
    | nil => exact Nat.le_refl _
    | cons x l => exact absurd (h x (by simp)) (Nat.not_lt_zero _)
  | n + 1, l, nd, h => by
    by_cases c : n ∈ l
    · have h2 := pige_nd n (l.erase n) (nd.erase n) (fun x hx => by
        have := (nd.mem_erase_iff).mp hx
        have := h x this.2
        omega)
      have h3 := List.length_erase_of_mem c
      omega
    · have h2 := pige_nd n l nd (fun x hx => by
        have := h x hx
        have : x ≠ n := fun e => c (e ▸ hx)
        omega)
      omega
theorem fr_sk (f : Fr h h') (s : Sk h) : Sk h' := ⟨fun k hk => (f.2.2.1 k hk).trans (s.1 k hk), fun x b c => by rw [f.1]; exact s.2.1 x b c, Nat.le_trans s.2.2 f.2.2.2.2.2⟩
theorem sm_fr (f : Fr h h') (rm : Rm h') (S : SM G q qv h) : SM G q qv h' := by
  have sk := fr_sk f S.1
  obtain ⟨s1, s2, s3, s4, s5, s6, s7⟩ := S
  obtain ⟨f1, f2, f3, f4, f5, f6⟩ := f
  have hq0 : q + 19 < 106 := by rcases s4.1 with rfl | rfl <;> decide
  have hq1 : q ≠ 59 := by rcases s4.1 with rfl | rfl <;> decide
  have q4 := f4 114 (by decide) (by decide) (by decide) (by decide)
  refine ⟨sk, by unfold Vy; rw [f1]; exact s2, rm, pm_same (funext fun i => f5 q i (fun c => hq1 c.1)) (fun j hj => ?_) s4, by rw [f1]; exact s5, by rw [q4.2.2]; exact s6, by rw [q4.2.1]; exact s7.1, kq_same ⟨f5 59 1 (by omega), f5 59 2 (by omega), f5 59 3 (by omega), f5 59 19 (by omega)⟩ (f4 60 (by decide) (by decide) (by decide) (by decide)).1 (f4 129 (by decide) (by decide) (by decide) (by decide)).2.1 (by rw [f1]) s7.2⟩
  have := f4 (q + j) (by omega) (by omega) (by omega) (by omega)
  exact ⟨this.1, this.2.2⟩
theorem rm_fr (f : Fr h h') (rm : Rm h') (r : RM G q qv (A, (sl, bs, pr), (bx, ps, pa, ce, gr), P) h) (m : MXb sl' bs pr bx' ps h') : RM G q qv (A, (sl', bs, pr), (bx', ps, pa, ce, gr), P) h' := by
  obtain ⟨a1, a2, a3, a4, a5, a6, a7, a8, a9, a10, a11, a12⟩ := r
  have S := sm_fr f rm a1
  obtain ⟨f1, f2, f3, f4, f5, f6⟩ := f
  have fI : ∀ i, i ≠ 42 → hI h' 59 i = hI h 59 i := fun i hi => f5 59 i (fun c => hi c.2)
  have q125 := f4 125 (by decide) (by decide) (by decide) (by decide)
  have q122 := f4 122 (by decide) (by decide) (by decide) (by decide)
  have q123 := f4 123 (by decide) (by decide) (by decide) (by decide)
  have q124 := f4 124 (by decide) (by decide) (by decide) (by decide)
  have q112 := f4 112 (by decide) (by decide) (by decide) (by decide)
  have q113 := f4 113 (by decide) (by decide) (by decide) (by decide)
  have q126 := f4 126 (by decide) (by decide) (by decide) (by decide)
  have q127 := f4 127 (by decide) (by decide) (by decide) (by decide)
  have q128 := f4 128 (by decide) (by decide) (by decide) (by decide)
  refine ⟨S, ?_, ?_, ?_, m, ?_, ?_, ?_, (fI 68 (by decide)).trans a9, (fI 69 (by decide)).trans a10, (fI 71 (by decide)).trans a11, a12⟩
  · unfold MXc at a2 ⊢; rw [f2, fI 66 (by decide), fI 67 (by decide)]; exact a2
  · unfold MXt at a3 ⊢; rw [fI 50 (by decide), q122.1, q122.2.2, q123.1, q123.2.2, q124.1, q124.2.2]; exact a3
  · unfold MXw at a4 ⊢; rw [fI 52 (by decide), q125.2.1, q125.2.2]; exact a4
  · unfold MXs at a6 ⊢; rw [fI 31 (by decide), fI 39 (by decide), q112.2.1, q112.2.2, q113.2.1, q113.2.2, q126.2.1, q126.2.2]; exact a6
  · unfold MXp at a7 ⊢; rw [fI 55 (by decide), fI 57 (by decide), q127.1, q127.2.2, q128.1, q128.2.2]; exact a7
  · unfold MXd at a8 ⊢; rw [fI 58 (by decide), fI 59 (by decide), fI 61 (by decide), f2]; exact a8
theorem fr_free {f : Nat → Int32} {c : Int32} : Fr h (pI (pA h 120 f) 59 42 c) := ⟨rfl, rfl, fun _ _ => rfl, fun a _ _ h2 _ => ⟨up1_ne h2, rfl, rfl⟩, fun a i hn => up2_ne hn, Nat.le_refl _⟩
theorem sp_collects (r : RM G q qv (A, (sl, bs, pr), (bx, ps, pa, ce, gr), P) h) (hl : sl.length ≤ 252000) (hd : 0 < d) (hq : ∀ h', RM G q qv (A, (sl, bs, pr), (bx, ps, pa, ce, gr), P) h' → hI h' 59 42 ≠ -1 → hv h' 121 = hv h 121 → Q none h') : aEv d 196 [.ref 59] h Q := by
  have S := r.1
  have s := S.1
  obtain ⟨⟨M1, M2, M3⟩, rl, fl, B⟩ := mxb_0.mp r.2.2.2.2.1
  obtain ⟨m1, m2, m3, m4, m5, m6, m7⟩ := M1
  have M2' := M2
  obtain ⟨m8, m9, m10, m11, m12, m13, m14, m15⟩ := M2
  obtain ⟨n1, n2⟩ := M3
  obtain ⟨B1, B2, B3, B4, B5, B6, B7⟩ := B
  have m1 : hI h 59 44 = nI sl.length := m1
  have m2 : sl.length ≤ hN h 121 := m2
  have m13 : hI h 59 38 = nI (kfl ps).length := m13
  have m14 : (kfl ps).length ≤ 40000 := m14
  have hk2 : ∀ i, i < (kfl ps).length → ∃ x, x < hN h 119 ∧ hA h 118 i = nI x := fun i hi => by
    have e := List.getElem?_eq_getElem hi
    exact ⟨_, (B3 _ (Or.inr (List.mem_of_getElem? e))).1, B2 _ _ e⟩
  have hk3 : ∀ i, i < sl.length → hA h 121 i = -1 ∨ ∃ x, x < hN h 119 ∧ hA h 121 i = nI x := fun i hi => by
    have e := List.getElem?_eq_getElem hi
    rcases B1 _ _ e with ⟨_, e2⟩ | ⟨b, e1, e2⟩
    · exact Or.inl e2
    · exact Or.inr ⟨rl b, (B3 b (Or.inl (by rw [← e1]; exact List.mem_of_getElem? e))).1, e2⟩
  have hlen : hN h 119 ≤ 300000 := by rcases n2 with e | e | e | e <;> omega
  have h121 : hN h 121 ≤ 262144 := by rcases m7 with e | e | e | e | e <;> omega
  -- what is left free
  have tail : ∀ f c fl', Fch f c fl' → fl'.Nodup → (∀ x, x ∈ fl' ↔ x < hN h 119 ∧ ¬ ((∃ i, i < (kfl ps).length ∧ hA h 118 i = nI x) ∨ ∃ i, i < sl.length ∧ hA h 121 i = nI x)) → aWP d 196 149 [(2, .int (nI 0 - 1)), (1, .int (nI fl'.length)), (0, .ref 59)] [] (pI (pA h 120 f) 59 42 c) Q := by
    intro f c fl' q1 q2 q3
    have nlive : ∀ x, x ∈ fl' → ∀ b, (b + 2 ∈ sl ∨ b ∈ kfl ps) → rl b ≠ x := fun x hx b hb e => by
      refine ((q3 x).mp hx).2 ?_
      rcases hb with hb | hb
      · obtain ⟨i, e1⟩ := List.mem_iff_getElem?.mp hb
        refine Or.inr ⟨i, g_lt e1, ?_⟩
        rcases B1 _ _ e1 with ⟨e2, _⟩ | ⟨b', e2, e3⟩
        · omega
        · have : b' = b := by omega
          subst this
          rw [e3, e]
      · obtain ⟨i, e1⟩ := List.mem_iff_getElem?.mp hb
        exact Or.inl ⟨i, g_lt e1, by rw [B2 _ _ e1, e]⟩
    have s2 : Sk (pI (pA h 120 f) 59 42 c) := fr_sk fr_free s
    have rm2 : Rm (pI (pA h 120 f) 59 42 c) := rm_same rfl rfl rfl S.2.2.1
    have a120 : hA (pI (pA h 120 f) 59 42 c) 120 = f := (up1_eq : va_up (hA h) 120 f 120 = f)
    have i42 : hI (pI (pA h 120 f) 59 42 c) 59 42 = c := (up2_eq : up2 (hI h) 59 42 c 59 42 = c)
    have Bx : Bxs sl bx ps (pI (pA h 120 f) 59 42 c) rl fl' := ⟨B1, B2, B3, B4, by rw [a120, i42]; exact q1, q2, fun x hx => ⟨((q3 x).mp hx).1, nlive x hx⟩⟩
    have R2 : RM G q qv (A, (sl, bs, pr), (bx, ps, pa, ce, gr), P) (pI (pA h 120 f) 59 42 c) := rm_fr fr_free rm2 r (mxb_0.mpr ⟨⟨⟨m1, m2, m3, m4, m5, m6, m7⟩, M2', n1, n2⟩, rl, fl', Bx⟩)
    have fin : fl' ≠ [] → Q none (pI (pA h 120 f) 59 42 c) := fun hne => hq _ R2 (by
      rw [i42]
      cases fl' with
      | nil => exact absurd rfl hne
      | cons b l =>
        rw [q1.1]
        intro e
        have := congrArg Int32.toInt e
        have hb := q1.2.1
        rw [nI_toInt (by omega)] at this
        have h2 : (-1 : Int32).toInt = -1 := by decide
        omega) rfl
    have hfl : fl'.length ≤ 300000 := by
      have := pige_nd _ _ q2 (fun x hx => ((q3 x).mp hx).1)
      omega
    have z3 : (300000 : Int32) = nI 300000 := rfl
    have n20 : ¬ (2 : Int32) = 0 := by decide
    have hdiv : nI (hN h 119) / 2 = nI (hN h 119 / 2) := by rcases n2 with e | e | e | e <;> rw [e] <;> decide
    simp only [lv_args, z_v, z_lg, z_h, z_u, z_u1, z_c, z_ct, z_sk, sbne, lst1_d, ldel, lst2_d, ldel2, z_sw, z_rok, zi, eq_self, List.map_cons, List.map_nil, List.append_nil, List.nil_append, List.cons_append, Int32.reduceLT, Int32.reduceLE, Int32.reduceAdd, Int32.reduceSub, Int32.reduceMul, Int32.reduceToInt, Int32.reduceToNatClampNeg, Int.reduceLT, Int.reduceLE, Int.reduceNeg, true_and, and_true, or_self, or_false, false_or, false_and, and_false, true_or, or_true, if_true, if_false, ne_eq, Classical.not_not, not_true_eq_false, not_false_eq_true, true_implies, false_implies, implies_true, Nat.reduceEqDiff, Nat.reduceAdd, Nat.reduceLeDiff, Nat.reduceSub, reduceCtorEq, reduceIte, b196_149, skM s, srM s, n20, hdiv, Nat.reduceLeDiff]
    simp (disch := omega) only [nI_leN]
    refine ⟨fun c1 => ?_, fun c1 => ?_⟩
    · simp only [lv_args, z_v, z_lg, z_h, z_u, z_u1, z_c, z_ct, z_sk, sbne, lst1_d, ldel, lst2_d, ldel2, z_sw, z_rok, zi, eq_self, List.map_cons, List.map_nil, List.append_nil, List.nil_append, List.cons_append, Int32.reduceLT, Int32.reduceLE, Int32.reduceAdd, Int32.reduceSub, Int32.reduceMul, Int32.reduceToInt, Int32.reduceToNatClampNeg, Int.reduceLT, Int.reduceLE, Int.reduceNeg, true_and, and_true, or_self, or_false, false_or, false_and, and_false, true_or, or_true, if_true, if_false, ne_eq, Classical.not_not, not_true_eq_false, not_false_eq_true, true_implies, false_implies, implies_true, Nat.reduceEqDiff, Nat.reduceAdd, Nat.reduceLeDiff, Nat.reduceSub, reduceCtorEq, reduceIte, b196_175]
      refine fin (fun e => ?_)
      rw [e] at c1
      rcases n2 with e | e | e | e <;> rw [e] at c1 <;> simp at c1
    · simp only [lv_args, z_v, z_lg, z_h, z_u, z_u1, z_c, z_ct, z_sk, sbne, lst1_d, ldel, lst2_d, ldel2, z_sw, z_rok, zi, eq_self, List.map_cons, List.map_nil, List.append_nil, List.nil_append, List.cons_append, Int32.reduceLT, Int32.reduceLE, Int32.reduceAdd, Int32.reduceSub, Int32.reduceMul, Int32.reduceToInt, Int32.reduceToNatClampNeg, Int.reduceLT, Int.reduceLE, Int.reduceNeg, true_and, and_true, or_self, or_false, false_or, false_and, and_false, true_or, or_true, if_true, if_false, ne_eq, Classical.not_not, not_true_eq_false, not_false_eq_true, true_implies, false_implies, implies_true, Nat.reduceEqDiff, Nat.reduceAdd, Nat.reduceLeDiff, Nat.reduceSub, reduceCtorEq, reduceIte, b196_160, skM s, srM s, z3, Nat.reduceLeDiff]
      simp (disch := omega) only [nI_leN]
      refine ⟨fun c2 => ?_, fun c2 => ?_⟩
      · simp only [lv_args, z_v, z_lg, z_h, z_u, z_u1, z_c, z_ct, z_sk, sbne, lst1_d, ldel, lst2_d, ldel2, z_sw, z_rok, zi, eq_self, List.map_cons, List.map_nil, List.append_nil, List.nil_append, List.cons_append, Int32.reduceLT, Int32.reduceLE, Int32.reduceAdd, Int32.reduceSub, Int32.reduceMul, Int32.reduceToInt, Int32.reduceToNatClampNeg, Int.reduceLT, Int.reduceLE, Int.reduceNeg, true_and, and_true, or_self, or_false, false_or, false_and, and_false, true_or, or_true, if_true, if_false, ne_eq, Classical.not_not, not_true_eq_false, not_false_eq_true, true_implies, false_implies, implies_true, Nat.reduceEqDiff, Nat.reduceAdd, Nat.reduceLeDiff, Nat.reduceSub, reduceCtorEq, reduceIte, b196_175]
        refine fin (fun e => ?_)
        have hall := pige 300000 ((kfl ps).map rl ++ sl.map (fun c => rl (c - 2))) (fun x hx => by
          have h1 : x ∉ fl' := by rw [e]; simp
          have h2 := Classical.not_not.mp (fun h3 => h1 ((q3 x).mpr ⟨by omega, h3⟩))
          rcases h2 with ⟨i, i1, i2⟩ | ⟨i, i1, i2⟩
          · have e1 := List.getElem?_eq_getElem i1
            have e2 := B2 _ _ e1
            rw [i2] at e2
            have hb := (B3 _ (Or.inr (List.mem_of_getElem? e1))).1
            have := nI_inj (by omega) (by omega) e2
            exact List.mem_append.mpr (Or.inl (List.mem_map.mpr ⟨_, List.mem_of_getElem? e1, this.symm⟩))
          · have e1 := List.getElem?_eq_getElem i1
            rcases B1 _ _ e1 with ⟨_, e2⟩ | ⟨b, e2, e3⟩
            · rw [i2] at e2
              have := congrArg Int32.toInt e2
              rw [nI_toInt (by omega)] at this
              have h2 : (-1 : Int32).toInt = -1 := by decide
              omega
            · rw [i2] at e3
              have hb := (B3 b (Or.inl (by rw [← e2]; exact List.mem_of_getElem? e1))).1
              have := nI_inj (by omega) (by omega) e3
              refine List.mem_append.mpr (Or.inr (List.mem_map.mpr ⟨_, List.mem_of_getElem? e1, ?_⟩))
              rw [e2, this]
              rfl)
        rw [List.length_append, List.length_map, List.length_map] at hall
        omega
      · obtain ⟨n, hn2⟩ : ∃ n, hN h 119 = 4096 ∧ n = 16384 ∨ hN h 119 = 16384 ∧ n = 65536 ∨ hN h 119 = 65536 ∧ n = 300000 := by
          rcases n2 with e | e | e | e
          · exact ⟨16384, Or.inl ⟨e, rfl⟩⟩
          · exact ⟨65536, Or.inr (Or.inl ⟨e, rfl⟩)⟩
          · exact ⟨300000, Or.inr (Or.inr ⟨e, rfl⟩)⟩
          · omega
        obtain ⟨g1, g2, g3, g4, g5, g6, g7, g8, g9, g10, g11⟩ := gwF_r (h := pI (pA h 120 f) 59 42 c) (n := n) s2.2.2
        have rm3 := gw_rm s2 rm2 n1 hn2
        simp only [lv_args, z_v, z_lg, z_h, z_u, z_u1, z_c, z_ct, z_sk, sbne, lst1_d, ldel, lst2_d, ldel2, z_sw, z_rok, zi, eq_self, List.map_cons, List.map_nil, List.append_nil, List.nil_append, List.cons_append, Int32.reduceLT, Int32.reduceLE, Int32.reduceAdd, Int32.reduceSub, Int32.reduceMul, Int32.reduceToInt, Int32.reduceToNatClampNeg, Int.reduceLT, Int.reduceLE, Int.reduceNeg, true_and, and_true, or_self, or_false, false_or, false_and, and_false, true_or, or_true, if_true, if_false, ne_eq, Classical.not_not, not_true_eq_false, not_false_eq_true, true_implies, false_implies, implies_true, Nat.reduceEqDiff, Nat.reduceAdd, Nat.reduceLeDiff, Nat.reduceSub, reduceCtorEq, reduceIte, b196_171, skM s, hd]
        refine sp_grows s2 S.2.1 rm2 n1 hn2 (by rw [a120, i42]; exact q1) (fun x hx => ((q3 x).mp hx).1) (fun f3 c3 gl p1 p2 p3 p4 => ?_)
        simp only [lv_args, z_v, z_lg, z_h, z_u, z_u1, z_c, z_ct, z_sk, sbne, lst1_d, ldel, lst2_d, ldel2, z_sw, z_rok, zi, eq_self, List.map_cons, List.map_nil, List.append_nil, List.nil_append, List.cons_append, Int32.reduceLT, Int32.reduceLE, Int32.reduceAdd, Int32.reduceSub, Int32.reduceMul, Int32.reduceToInt, Int32.reduceToNatClampNeg, Int.reduceLT, Int.reduceLE, Int.reduceNeg, true_and, and_true, or_self, or_false, false_or, false_and, and_false, true_or, or_true, if_true, if_false, ne_eq, Classical.not_not, not_true_eq_false, not_false_eq_true, true_implies, false_implies, implies_true, Nat.reduceEqDiff, Nat.reduceAdd, Nat.reduceLeDiff, Nat.reduceSub, reduceCtorEq, reduceIte, b196_175, skM s, Nat.reduceLT]
        have p4 : ∀ x, x ∈ gl → hN h 119 ≤ x ∧ x < n := p4
        have g8 : ∀ i, i < hN h 119 → hB (gwF (pI (pA h 120 f) 59 42 c) n) 119 i = hB h 119 i := g8
        have F3 : Fr h (gwF (pI (pA h 120 f) 59 42 c) n) := by
          refine ⟨g1, g3, g4, fun a a1 a2 a3 a4 => ?_, fun a i hn => ?_, by rw [g10]; exact Nat.le_add_right _ _⟩
          · have := g5 a a1 a2 a3
            exact ⟨this.1.trans (up1_ne a3), this.2.1, this.2.2⟩
          · rw [g2]; exact up2_ne hn
        have a121 := g5 121 (by decide) (by decide) (by decide)
        have e121 : hA (gwF (pI (pA h 120 f) 59 42 c) n) 121 = hA h 121 := a121.1
        have l121 : hN (gwF (pI (pA h 120 f) 59 42 c) n) 121 = hN h 121 := a121.2.2
        have F4 := F3.2.2.2.1
        have q116 := F4 116 (by decide) (by decide) (by decide) (by decide)
        have q117 := F4 117 (by decide) (by decide) (by decide) (by decide)
        have q118 := F4 118 (by decide) (by decide) (by decide) (by decide)
        have fI : ∀ i, i ≠ 42 → hI (gwF (pI (pA h 120 f) 59 42 c) n) 59 i = hI h 59 i := fun i hi => F3.2.2.2.2.1 59 i (fun c => hi c.2)
        have hwn : hN h 119 < n := by omega
        have gv : hv (gwF (pI (pA h 120 f) 59 42 c) n) 121 = hv h 121 := gwF_v s2.2.2
        generalize gwF (pI (pA h 120 f) 59 42 c) n = H at *
        have b120 : hA (pI (pA H 120 f3) 59 42 c3) 120 = f3 := (up1_eq : va_up (hA H) 120 f3 120 = f3)
        have j42 : hI (pI (pA H 120 f3) 59 42 c3) 59 42 = c3 := (up2_eq : up2 (hI H) 59 42 c3 59 42 = c3)
        have k121 : hA (pI (pA H 120 f3) 59 42 c3) 121 = hA h 121 := (up1_ne (by decide) : va_up (hA H) 120 f3 121 = hA H 121).trans e121
        have k118 : hA (pI (pA H 120 f3) 59 42 c3) 118 = hA h 118 := (up1_ne (by decide) : va_up (hA H) 120 f3 118 = hA H 118).trans q118.1
        have k117 : hA (pI (pA H 120 f3) 59 42 c3) 117 = hA h 117 := (up1_ne (by decide) : va_up (hA H) 120 f3 117 = hA H 117).trans q117.1
        have k116 : hA (pI (pA H 120 f3) 59 42 c3) 116 = hA h 116 := (up1_ne (by decide) : va_up (hA H) 120 f3 116 = hA H 116).trans q116.1
        have l119 : hN (pI (pA H 120 f3) 59 42 c3) 119 = n := g6
        have l120 : hN (pI (pA H 120 f3) 59 42 c3) 120 = n := g7
        have fJ : ∀ i, i ≠ 42 → hI (pI (pA H 120 f3) 59 42 c3) 59 i = hI h 59 i := fun i hi => (up2_ne (fun c => hi c.2)).trans (fI i hi)
        refine hq (pI (pA H 120 f3) 59 42 c3) (rm_fr ?_ (rm_same rfl rfl rfl rm3) r (mxb_0.mpr ⟨⟨⟨?_, ?_, ?_, m4, ?_, m6, ?_⟩, ⟨?_, m9, ?_, ?_, ?_, ?_, m14, ?_⟩, ?_, ?_⟩, rl, gl ++ fl', ⟨?_, ?_, fun b hb => ?_, B4, ?_, ?_, fun x hx => ?_⟩⟩)) ?_ gv
        · exact ⟨F3.1, F3.2.1, F3.2.2.1, fun a a1 a2 a3 a4 => ⟨(up1_ne a3).trans (F4 a a1 a2 a3 a4).1, (F4 a a1 a2 a3 a4).2⟩, fun a i hn => (up2_ne hn).trans (F3.2.2.2.2.1 a i hn), F3.2.2.2.2.2⟩
        · rw [fJ 44 (by decide)]; exact m1
        · show sl.length ≤ hN H 121; rw [l121]; exact m2
        · rw [fJ 45 (by decide)]; exact m3
        · rw [fJ 46 (by decide)]; exact m5
        · show hN H 121 = 1024 ∨ hN H 121 = 4096 ∨ hN H 121 = 16384 ∨ hN H 121 = 65536 ∨ hN H 121 = 262144; rw [l121]; exact m7
        · rw [fJ 37 (by decide)]; exact m8
        · exact q116.2.2.trans m10
        · exact q117.2.2.trans m11
        · exact q118.2.2.trans m12
        · rw [fJ 38 (by decide)]; exact m13
        · rw [k116, k117]; exact m15
        · rw [l119, l120]
        · rw [l119]; omega
        · rw [k121]; exact B1
        · rw [k118]; exact B2
        · obtain ⟨x1, x, x2, x3⟩ := B3 b hb
          exact ⟨by rw [l119]; omega, x, x2, (g8 _ x1).trans x3⟩
        · rw [b120, j42]; exact p2
        · refine List.nodup_append.mpr ⟨p3, q2, fun a ha b hb e => ?_⟩
          have := (p4 a ha).1
          have := ((q3 b).mp hb).1
          omega
        · rw [l119]
          rcases List.mem_append.mp hx with hx | hx
          · exact ⟨(p4 x hx).2, fun b hb e => by
              have := (B3 b hb).1
              have := (p4 x hx).1
              omega⟩
          · exact ⟨by have := ((q3 x).mp hx).1; omega, nlive x hx⟩
        · rw [j42]
          cases gl with
          | nil => exact absurd rfl p1
          | cons b l =>
            rw [p2.1]
            intro e
            have := congrArg Int32.toInt e
            have hb := p2.2.1
            rw [nI_toInt (by omega)] at this
            have h2 : (-1 : Int32).toInt = -1 := by decide
            omega
  have c3 := fun f hf => c3_loop (h := h) (d := d) (Q := Q) (len := hN h 119) (tp := sl.length) (K := fun x => ∃ i, i < (kfl ps).length ∧ hA h 118 i = nI x) s n1 hlen m1 m2 h121 hk3 (fun f hf => by
    have c4 := c4_loop (h := h) (d := d) (Q := Q) (len := hN h 119) (f0 := f) s n1 hlen (fun f' c fl' q1 q2 q3 => tail f' c fl' q1 q2 (fun x => (q3 x).trans ⟨fun ⟨e1, e2⟩ => ⟨e1, fun e3 => e2 ((hf x e1).2.mpr e3)⟩, fun ⟨e1, e2⟩ => ⟨e1, fun e3 => e2 ((hf x e1).2.mp e3)⟩⟩)) (hN h 119) f (-1) [] (Nat.le_refl _) (fun _ _ => rfl) rfl List.nodup_nil (fun x => ⟨fun e => absurd e (List.not_mem_nil), fun e => absurd e.2.1 (Nat.not_lt.mpr e.1)⟩)
    simp only [lv_args, z_v, z_lg, z_h, z_u, z_u1, z_c, z_ct, z_sk, sbne, lst1_d, ldel, lst2_d, ldel2, z_sw, z_rok, zi, eq_self, List.map_cons, List.map_nil, List.append_nil, List.nil_append, List.cons_append, Int32.reduceLT, Int32.reduceLE, Int32.reduceAdd, Int32.reduceSub, Int32.reduceMul, Int32.reduceToInt, Int32.reduceToNatClampNeg, Int.reduceLT, Int.reduceLE, Int.reduceNeg, true_and, and_true, or_self, or_false, false_or, false_and, and_false, true_or, or_true, if_true, if_false, ne_eq, Classical.not_not, not_true_eq_false, not_false_eq_true, true_implies, false_implies, implies_true, Nat.reduceEqDiff, Nat.reduceAdd, Nat.reduceLeDiff, Nat.reduceSub, reduceCtorEq, reduceIte, b196_92, skM s, srM s, Nat.reduceLeDiff]
    exact c4) sl.length 0 f (by omega) hf
  have c2 := fun f hf => c2_loop (h := h) (d := d) (Q := Q) (len := hN h 119) (km := (kfl ps).length) s rfl n1 hlen m13 m14 m12 hk2 (fun f hf => by
    have := c3 f (fun x hx => ⟨(hf x hx).1, (hf x hx).2.trans ⟨fun e => Or.inl e, fun e => e.elim id (fun ⟨i, i1, _⟩ => absurd i1 (Nat.not_lt_zero i))⟩⟩)
    simp only [lv_args, z_v, z_lg, z_h, z_u, z_u1, z_c, z_ct, z_sk, sbne, lst1_d, ldel, lst2_d, ldel2, z_sw, z_rok, zi, eq_self, List.map_cons, List.map_nil, List.append_nil, List.nil_append, List.cons_append, Int32.reduceLT, Int32.reduceLE, Int32.reduceAdd, Int32.reduceSub, Int32.reduceMul, Int32.reduceToInt, Int32.reduceToNatClampNeg, Int.reduceLT, Int.reduceLE, Int.reduceNeg, true_and, and_true, or_self, or_false, false_or, false_and, and_false, true_or, or_true, if_true, if_false, ne_eq, Classical.not_not, not_true_eq_false, not_false_eq_true, true_implies, false_implies, implies_true, Nat.reduceEqDiff, Nat.reduceAdd, Nat.reduceLeDiff, Nat.reduceSub, reduceCtorEq, reduceIte, b196_53]
    exact this) (kfl ps).length 0 f (by omega) hf
  have c1 := c1_loop (h := h) (d := d) (Q := Q) (len := hN h 119) s rfl n1 hlen (fun f hf => by
    have := c2 f (fun x hx => ⟨Or.inl (hf x hx), fun e => by rw [hf x hx] at e; exact absurd e (by decide), fun ⟨i, i1, _⟩ => absurd i1 (Nat.not_lt_zero i)⟩)
    simp only [lv_args, z_v, z_lg, z_h, z_u, z_u1, z_c, z_ct, z_sk, sbne, lst1_d, ldel, lst2_d, ldel2, z_sw, z_rok, zi, eq_self, List.map_cons, List.map_nil, List.append_nil, List.nil_append, List.cons_append, Int32.reduceLT, Int32.reduceLE, Int32.reduceAdd, Int32.reduceSub, Int32.reduceMul, Int32.reduceToInt, Int32.reduceToNatClampNeg, Int.reduceLT, Int.reduceLE, Int.reduceNeg, true_and, and_true, or_self, or_false, false_or, false_and, and_false, true_or, or_true, if_true, if_false, ne_eq, Classical.not_not, not_true_eq_false, not_false_eq_true, true_implies, false_implies, implies_true, Nat.reduceEqDiff, Nat.reduceAdd, Nat.reduceLeDiff, Nat.reduceSub, reduceCtorEq, reduceIte, b196_24]
    exact this) (hN h 119) 0 (hA h 120) (by omega) (fun b hb => absurd hb (Nat.not_lt_zero b))
  rw [pA_id] at c1
  unfold aEv
  simp only [lv_args, z_v, z_lg, z_h, z_u, z_u1, z_c, z_ct, z_sk, sbne, lst1_d, ldel, lst2_d, ldel2, z_sw, z_rok, zi, eq_self, List.map_cons, List.map_nil, List.append_nil, List.nil_append, List.cons_append, Int32.reduceLT, Int32.reduceLE, Int32.reduceAdd, Int32.reduceSub, Int32.reduceMul, Int32.reduceToInt, Int32.reduceToNatClampNeg, Int.reduceLT, Int.reduceLE, Int.reduceNeg, true_and, and_true, or_self, or_false, false_or, false_and, and_false, true_or, or_true, if_true, if_false, ne_eq, Classical.not_not, not_true_eq_false, not_false_eq_true, true_implies, false_implies, implies_true, Nat.reduceEqDiff, Nat.reduceAdd, Nat.reduceLeDiff, Nat.reduceSub, reduceCtorEq, reduceIte, b196_0]
  exact c1
/-- a new box -/
theorem sp_newBox (r : RM G q qv (A, (sl, bs, pr), (bx, ps, pa, ce, gr), P) h) (hl : sl.length ≤ 252000) (hd : 1 < d) (hq : ∀ b h', RM G q qv (A, (sl, bs, pr), (bx, ps, pa, ce, gr), P) h' → NBx sl bx ps h' b v → hv h' 121 = hv h 121 → Q (some (.int (nI b))) h') : aEv d 239 [.ref 59, .long v] h Q := by
  have key : ∀ h1, RM G q qv (A, (sl, bs, pr), (bx, ps, pa, ce, gr), P) h1 → hI h1 59 42 ≠ -1 → hv h1 121 = hv h 121 → aWP d 239 12 [(0, .ref 59), (1, .long v)] [] h1 Q := by
    intro h1 r1 hne hv1
    have s := r1.1.1
    obtain ⟨M, rl, fl, B⟩ := mxb_0.mp r1.2.2.2.2.1
    obtain ⟨B1, B2, B3, B4, B5, B6, B7⟩ := B
    have n1 := M.2.2.1
    have n2 := M.2.2.2
    cases fl with
    | nil => exact absurd B5 hne
    | cons b l =>
      obtain ⟨c1, c2, c3⟩ := B5
      obtain ⟨x1, x2⟩ := B7 b (by simp)
      rw [List.nodup_cons] at B6
      have F : Fr h1 (pB (pI h1 59 42 (hA h1 120 b)) 119 (vp_updL (hB h1 119) b v)) := ⟨rfl, rfl, fun _ _ => rfl, fun a _ h2 _ _ => ⟨rfl, up1_ne h2, rfl⟩, fun a i hn => up2_ne hn, Nat.le_refl _⟩
      have eB : hB (pB (pI h1 59 42 (hA h1 120 b)) 119 (vp_updL (hB h1 119) b v)) 119 = vp_updL (hB h1 119) b v := (up1_eq : va_up (hB h1) 119 _ 119 = _)
      have eI : hI (pB (pI h1 59 42 (hA h1 120 b)) 119 (vp_updL (hB h1 119) b v)) 59 42 = hA h1 120 b := (up2_eq : up2 (hI h1) 59 42 _ 59 42 = _)
      have Bn : Bxs sl bx ps (pB (pI h1 59 42 (hA h1 120 b)) 119 (vp_updL (hB h1 119) b v)) rl l := by
        refine ⟨B1, B2, fun b' hb' => ?_, B4, by rw [eI]; exact c3, B6.2, fun x hx => B7 x (by simp [hx])⟩
        obtain ⟨y1, y, y2, y3⟩ := B3 b' hb'
        refine ⟨y1, y, y2, ?_⟩
        rw [eB]
        exact (if_neg (x2 b' hb')).trans y3
      have fin := hq b _ (rm_fr F (rm_same rfl rfl rfl r1.1.2.2.1) r1 (mxb_0.mpr ⟨M, rl, l, Bn⟩)) ⟨x1, by rw [eB]; exact if_pos rfl, rl, l, Bn, B6.1, x2⟩ hv1
      simp only [lv_args, z_v, z_lg, z_h, z_u, z_u1, z_c, z_ct, z_sk, sbne, lst1_d, ldel, lst2_d, ldel2, z_sw, z_rok, zi, eq_self, List.map_cons, List.map_nil, List.append_nil, List.nil_append, List.cons_append, Int32.reduceLT, Int32.reduceLE, Int32.reduceAdd, Int32.reduceSub, Int32.reduceMul, Int32.reduceToInt, Int32.reduceToNatClampNeg, Int.reduceLT, Int.reduceLE, Int.reduceNeg, true_and, and_true, or_self, or_false, false_or, false_and, and_false, true_or, or_true, if_true, if_false, ne_eq, Classical.not_not, not_true_eq_false, not_false_eq_true, true_implies, false_implies, implies_true, Nat.reduceEqDiff, Nat.reduceAdd, Nat.reduceLeDiff, Nat.reduceSub, reduceCtorEq, reduceIte, b239_12, skM s, srM s, c1, n1]
      simp (disch := omega) only [nI_ti, nI_cl, le0N, ltNN, true_and]
      refine ⟨x1, ?_⟩
      try simp only [lv_args, z_v, z_lg, z_h, z_u, z_u1, z_c, z_ct, z_sk, sbne, lst1_d, ldel, lst2_d, ldel2, z_sw, z_rok, zi, eq_self, List.map_cons, List.map_nil, List.append_nil, List.nil_append, List.cons_append, Int32.reduceLT, Int32.reduceLE, Int32.reduceAdd, Int32.reduceSub, Int32.reduceMul, Int32.reduceToInt, Int32.reduceToNatClampNeg, Int.reduceLT, Int.reduceLE, Int.reduceNeg, true_and, and_true, or_self, or_false, false_or, false_and, and_false, true_or, or_true, if_true, if_false, ne_eq, Classical.not_not, not_true_eq_false, not_false_eq_true, true_implies, false_implies, implies_true, Nat.reduceEqDiff, Nat.reduceAdd, Nat.reduceLeDiff, Nat.reduceSub, reduceCtorEq, reduceIte, b239_12, skM s, srM s]
      try simp (disch := omega) only [nI_ti, nI_cl, le0N, ltNN, true_and]
      refine ⟨x1, ?_⟩
      try simp only [lv_args, z_v, z_lg, z_h, z_u, z_u1, z_c, z_ct, z_sk, sbne, lst1_d, ldel, lst2_d, ldel2, z_sw, z_rok, zi, eq_self, List.map_cons, List.map_nil, List.append_nil, List.nil_append, List.cons_append, Int32.reduceLT, Int32.reduceLE, Int32.reduceAdd, Int32.reduceSub, Int32.reduceMul, Int32.reduceToInt, Int32.reduceToNatClampNeg, Int.reduceLT, Int.reduceLE, Int.reduceNeg, true_and, and_true, or_self, or_false, false_or, false_and, and_false, true_or, or_true, if_true, if_false, ne_eq, Classical.not_not, not_true_eq_false, not_false_eq_true, true_implies, false_implies, implies_true, Nat.reduceEqDiff, Nat.reduceAdd, Nat.reduceLeDiff, Nat.reduceSub, reduceCtorEq, reduceIte, b239_12]
      exact fin
  have s := r.1.1
  have h0 : 0 < d := by omega
  unfold aEv
  simp only [lv_args, z_v, z_lg, z_h, z_u, z_u1, z_c, z_ct, z_sk, sbne, lst1_d, ldel, lst2_d, ldel2, z_sw, z_rok, zi, eq_self, List.map_cons, List.map_nil, List.append_nil, List.nil_append, List.cons_append, Int32.reduceLT, Int32.reduceLE, Int32.reduceAdd, Int32.reduceSub, Int32.reduceMul, Int32.reduceToInt, Int32.reduceToNatClampNeg, Int.reduceLT, Int.reduceLE, Int.reduceNeg, true_and, and_true, or_self, or_false, false_or, false_and, and_false, true_or, or_true, if_true, if_false, ne_eq, Classical.not_not, not_true_eq_false, not_false_eq_true, true_implies, false_implies, implies_true, Nat.reduceEqDiff, Nat.reduceAdd, Nat.reduceLeDiff, Nat.reduceSub, reduceCtorEq, reduceIte, b239_0, skM s]
  refine ⟨fun c => key h r c rfl, fun c => ?_⟩
  simp only [lv_args, z_v, z_lg, z_h, z_u, z_u1, z_c, z_ct, z_sk, sbne, lst1_d, ldel, lst2_d, ldel2, z_sw, z_rok, zi, eq_self, List.map_cons, List.map_nil, List.append_nil, List.nil_append, List.cons_append, Int32.reduceLT, Int32.reduceLE, Int32.reduceAdd, Int32.reduceSub, Int32.reduceMul, Int32.reduceToInt, Int32.reduceToNatClampNeg, Int.reduceLT, Int.reduceLE, Int.reduceNeg, true_and, and_true, or_self, or_false, false_or, false_and, and_false, true_or, or_true, if_true, if_false, ne_eq, Classical.not_not, not_true_eq_false, not_false_eq_true, true_implies, false_implies, implies_true, Nat.reduceEqDiff, Nat.reduceAdd, Nat.reduceLeDiff, Nat.reduceSub, reduceCtorEq, reduceIte, b239_8, skM s, h0]
  refine sp_collects r hl (by omega) (fun h' r' hne hv' => ?_)
  simp only [lv_args, z_v, z_lg, z_h, z_u, z_u1, z_c, z_ct, z_sk, sbne, lst1_d, ldel, lst2_d, ldel2, z_sw, z_rok, zi, eq_self, List.map_cons, List.map_nil, List.append_nil, List.nil_append, List.cons_append, Int32.reduceLT, Int32.reduceLE, Int32.reduceAdd, Int32.reduceSub, Int32.reduceMul, Int32.reduceToInt, Int32.reduceToNatClampNeg, Int.reduceLT, Int.reduceLE, Int.reduceNeg, true_and, and_true, or_self, or_false, false_or, false_and, and_false, true_or, or_true, if_true, if_false, ne_eq, Classical.not_not, not_true_eq_false, not_false_eq_true, true_implies, false_implies, implies_true, Nat.reduceEqDiff, Nat.reduceAdd, Nat.reduceLeDiff, Nat.reduceSub, reduceCtorEq, reduceIte, skM s, Nat.reduceLT]
  exact key h' r' hne hv'
/-- the new box gets into a slot -/
theorem rm_slot {j b : Nat} (r : RM G q qv (A, (sl, bs, pr), (bx, ps, pa, ce, gr), P) h) (nb : NBx sl bx ps h b v) (hj : j < sl.length) : RM G q qv (A, (sl.set j (bx.length + 2), bs, pr), (bx ++ [v], ps, pa, ce, gr), P) (pA h 121 (upd (hA h 121) j (nI b))) := by
  obtain ⟨c1, c2, rl, fl, ⟨B1, B2, B3, B4, B5, B6, B7⟩, c3, c4⟩ := nb
  have F : Fr h (pA h 121 (upd (hA h 121) j (nI b))) := ⟨rfl, rfl, fun _ _ => rfl, fun a _ _ _ h2 => ⟨up1_ne h2, rfl, rfl⟩, fun _ _ _ => rfl, Nat.le_refl _⟩
  obtain ⟨⟨⟨m1, m2, m3⟩, M2, M3⟩, _⟩ := mxb_0.mp r.2.2.2.2.1
  have lv : ∀ b', (b' + 2 ∈ sl.set j (bx.length + 2) ∨ b' ∈ kfl ps) → b' = bx.length ∨ ((b' + 2 ∈ sl ∨ b' ∈ kfl ps) ∧ b' < bx.length) := fun b' hb' => by
    have : b' = bx.length ∨ (b' + 2 ∈ sl ∨ b' ∈ kfl ps) := by
      rcases hb' with hb' | hb'
      · rcases List.mem_or_eq_of_mem_set hb' with e | e
        · exact Or.inr (Or.inl e)
        · exact Or.inl (by omega)
      · exact Or.inr (Or.inr hb')
    rcases this with e | e
    · exact Or.inl e
    · obtain ⟨_, x, x2, _⟩ := B3 b' e
      exact Or.inr ⟨e, g_lt x2⟩
  have nk : bx.length ∉ kfl ps := fun e => by
    obtain ⟨_, x, x2, _⟩ := B3 _ (Or.inr e)
    exact absurd (g_lt x2) (Nat.lt_irrefl _)
  have eA : hA (pA h 121 (upd (hA h 121) j (nI b))) 121 = upd (hA h 121) j (nI b) := (up1_eq : va_up (hA h) 121 _ 121 = _)
  obtain ⟨R, R1, R2⟩ : ∃ R : Nat → Nat, R bx.length = b ∧ ∀ x, x ≠ bx.length → R x = rl x := ⟨fun x => if x = bx.length then b else rl x, if_pos rfl, fun x hx => if_neg hx⟩
  refine rm_fr F (rm_same rfl rfl rfl r.1.2.2.1) r (mxb_0.mpr ⟨⟨⟨by rw [List.length_set]; exact m1, by rw [List.length_set]; exact m2, m3⟩, M2, M3⟩, R, fl, ⟨fun i c e => ?_, fun i b' e => ?_, fun b' hb' => ?_, fun b1 b2 h1 h2 e => ?_, B5, B6, fun f hf => ⟨(B7 f hf).1, fun b' hb' => ?_⟩⟩⟩)
  · rw [eA]
    by_cases ci : i = j
    · subst ci
      rw [List.getElem?_set_self hj] at e
      injection e with e
      exact Or.inr ⟨bx.length, e.symm, by rw [R1]; exact if_pos rfl⟩
    · rw [List.getElem?_set_ne (Ne.symm ci)] at e
      have eu : upd (hA h 121) j (nI b) i = hA h 121 i := if_neg ci
      rw [eu]
      rcases B1 i c e with e1 | ⟨b', e1, e2⟩
      · exact Or.inl e1
      · refine Or.inr ⟨b', e1, ?_⟩
        obtain ⟨_, x, x2, _⟩ := B3 b' (Or.inl (by rw [← e1]; exact List.mem_of_getElem? e))
        have := g_lt x2
        rw [R2 _ (by omega)]
        exact e2
  · have hb' := List.mem_of_getElem? e
    rw [R2 b' (fun e => nk (e ▸ hb'))]
    exact B2 i b' e
  · rcases lv b' hb' with rfl | ⟨h1, h2⟩
    · rw [R1]
      exact ⟨c1, v, by simp, c2⟩
    · rw [R2 _ (by omega)]
      obtain ⟨x1, x, x2, x3⟩ := B3 b' h1
      exact ⟨x1, x, by rw [List.getElem?_append_left h2]; exact x2, x3⟩
  · rcases lv b1 h1 with rfl | ⟨g1, g2⟩ <;> rcases lv b2 h2 with rfl | ⟨k1, k2⟩
    · rfl
    · rw [R1, R2 b2 (by omega)] at e
      exact absurd e.symm (c4 b2 k1)
    · rw [R1, R2 b1 (by omega)] at e
      exact absurd e (c4 b1 g1)
    · rw [R2 b1 (by omega), R2 b2 (by omega)] at e
      exact B4 b1 b2 g1 k1 e
  · rcases lv b' hb' with rfl | ⟨g1, g2⟩
    · rw [R1]
      exact fun e => c3 (e ▸ hf)
    · rw [R2 b' (by omega)]
      exact (B7 f hf).2 b' g1
end REQ
