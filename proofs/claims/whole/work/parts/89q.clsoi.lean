/-! the relation behind each operation -/
section COI
variable {h h' : Hp} {Q : Option Value → Hp → Prop} {d : Nat} {G : PG} {p pc : Nat} {cap : Nat} {s t xs : List Int64} {v x y c : Int64} {a b o : Int32} {ba : Nat} {se : Int32} {bk : List BK} {F F' : List Int64} {ce ce' : Nat} {gc : List Int64} {r n M i g : Nat} {P : List Int32 × List Int32 × Nat × Nat × Int64 × Nat} {inp out : List Int32} {th st lf : Nat} {lt : Int64}
theorem rm_54 (m : Rm h) {r : Nat} (hr : r = 54 ∨ r = 55 ∨ r = 56) : hN h r < 1000000 := by
  have h1 : r ∈ GLs := by rcases hr with rfl | rfl | rfl <;> decide
  have h2 : cpR r = 3100 := by rcases hr with rfl | rfl | rfl <;> rfl
  have := (m.2.2 r h1).2
  omega
/-- the rows of open calls, grown and written -/
theorem rx_op {b2 : Nat} (r : RX G p ((pc, s), (ba, se, bk, cap), (F, ce, gc), P) h) (hbk : bk.length < 1000) (hpc : pc + 1 < 1000000) (hb2 : b2 < 1000000) : RX G p ((pc, s), (b2, se, (pc + 1, ba, se) :: bk, cap), (F, ce, gc), P) (hOp h bk.length pc ba se b2) := by
  obtain ⟨r1, r2, r3, r4, r5, r6, r7⟩ := r
  obtain ⟨g1, g2, g3, s1, s2, s3⟩ := gro3 r1 (n := bk.length + 1) (by omega)
  have so := sx_hOp (pc := pc) (ba := ba) (se := se) (b2 := b2) r1 hbk
  obtain ⟨o1, o2, o3, o4, o5, o6, o7, o8, o9, o10⟩ := hOp_r (h := h) (n := bk.length) (pc := pc) (ba := ba) (se := se) (b2 := b2)
  have t3 := rxs_gro g3 (by decide) (rxs_gro g2 (by decide) (rxs_gro g1 (by decide) r3))
  have t5 := rxh_gro g3 (by decide) (rxh_gro g2 (by decide) (rxh_gro g1 (by decide) r5))
  have t6 := rxd_gro g3 (rxd_gro g2 (rxd_gro g1 r6))
  have t7 := rxp_gro g3 (by decide) (rxp_gro g2 (by decide) (rxp_gro g1 (by decide) r7))
  have iH : hI (rmI (rmI (rmI h 54 (bk.length + 1)) 55 (bk.length + 1)) 56 (bk.length + 1)) = hI h := by rw [g3.2.1, g2.2.1, g1.2.1]
  obtain ⟨f1, f2, f3, f4, f5, f6, f7, ⟨f8, f8b, f8c⟩, ⟨f9, f9b, f9c⟩, f10⟩ := r4
  have f4 : hI h 47 8 = nI bk.length := f4
  have f7 : bk.length ≤ 1000 := f7
  have f8 : bk.length ≤ hN h 54 := f8
  have f8b : bk.length ≤ hN h 55 := f8b
  have f8c : bk.length ≤ hN h 56 := f8c
  -- what the rows had
  have c54 : ∀ j, j < bk.length → hA (rmI (rmI (rmI h 54 (bk.length + 1)) 55 (bk.length + 1)) 56 (bk.length + 1)) 54 j = hA h 54 j := fun j hj => by
    rw [(g3.2.2.2.2.1 54 (by decide) (by decide)).1, (g2.2.2.2.2.1 54 (by decide) (by decide)).1]
    exact (gro_I r1.1 (a := 54) (by decide) (bk.length + 1)).2 j (by omega)
  have c55 : ∀ j, j < bk.length → hA (rmI (rmI (rmI h 54 (bk.length + 1)) 55 (bk.length + 1)) 56 (bk.length + 1)) 55 j = hA h 55 j := fun j hj => by
    rw [(g3.2.2.2.2.1 55 (by decide) (by decide)).1, (gro_I s1.1 (a := 55) (by decide) (bk.length + 1)).2 j (by rw [(g1.2.2.2.2.1 55 (by decide) (by decide)).2.2]; omega), (g1.2.2.2.2.1 55 (by decide) (by decide)).1]
  have c56 : ∀ j, j < bk.length → hA (rmI (rmI (rmI h 54 (bk.length + 1)) 55 (bk.length + 1)) 56 (bk.length + 1)) 56 j = hA h 56 j := fun j hj => by
    rw [(gro_I s2.1 (a := 56) (by decide) (bk.length + 1)).2 j (by rw [(g2.2.2.2.2.1 56 (by decide) (by decide)).2.2, (g1.2.2.2.2.1 56 (by decide) (by decide)).2.2]; omega), (g2.2.2.2.2.1 56 (by decide) (by decide)).1, (g1.2.2.2.2.1 56 (by decide) (by decide)).1]
  have n54 : bk.length + 1 ≤ hN (rmI (rmI (rmI h 54 (bk.length + 1)) 55 (bk.length + 1)) 56 (bk.length + 1)) 54 := by rw [(g3.2.2.2.2.1 54 (by decide) (by decide)).2.2, (g2.2.2.2.2.1 54 (by decide) (by decide)).2.2]; exact g1.2.2.2.2.2.1
  have n55 : bk.length + 1 ≤ hN (rmI (rmI (rmI h 54 (bk.length + 1)) 55 (bk.length + 1)) 56 (bk.length + 1)) 55 := by rw [(g3.2.2.2.2.1 55 (by decide) (by decide)).2.2]; exact g2.2.2.2.2.2.1
  have n56 : bk.length + 1 ≤ hN (rmI (rmI (rmI h 54 (bk.length + 1)) 55 (bk.length + 1)) 56 (bk.length + 1)) 56 := g3.2.2.2.2.2.1
  have m3 := s3.2.2.1
  generalize rmI (rmI (rmI h 54 (bk.length + 1)) 55 (bk.length + 1)) 56 (bk.length + 1) = H at *
  generalize hOp h bk.length pc ba se b2 = O at *
  have oI : ∀ a b, ¬ (a = 47 ∧ (b = 5 ∨ b = 8)) → hI O a b = hI h a b := fun a b c => by rw [o4 a b c, iH]
  refine ⟨so, ?_, ?_, ?_, ?_, ?_, ?_⟩
  · rw [oI 47 14 (by decide)]; exact r2
  · obtain ⟨a1, a2, a3, a4, a5⟩ := t3
    refine ⟨?_, by rw [o1]; exact a2, by rw [o1]; exact a3, by rw [o1]; exact a4, by rw [o6]; exact a5⟩
    rw [o4 47 4 (by decide)]; exact a1
  · refine ⟨o2, by rw [oI 47 6 (by decide)]; exact f2, by rw [oI 47 7 (by decide)]; exact f3, o3, hb2, f6, ?_, ?_, ?_, ?_⟩
    · simp only [List.length_cons]; omega
    · rw [o1]; simp only [List.length_cons]; exact ⟨n54, n55, n56⟩
    · rw [o1]; exact ⟨rm_54 m3 (Or.inl rfl), rm_54 m3 (Or.inr (Or.inl rfl)), rm_54 m3 (Or.inr (Or.inr rfl))⟩
    · intro j b e
      rw [o8, o9, o10]
      show (if j = bk.length then _ else hA H 54 j) = _ ∧ (if j = bk.length then _ else hA H 55 j) = _ ∧ (if j = bk.length then _ else hA H 56 j) = _ ∧ _
      rw [List.reverse_cons] at e
      by_cases q : j < bk.length
      · rw [List.getElem?_append_left (by simpa using q)] at e
        rw [if_neg (by omega), if_neg (by omega), if_neg (by omega), c54 j q, c55 j q, c56 j q]
        exact f10 j b e
      · have hj : j = bk.length := by
          have := g_lt e
          simp at this
          omega
        subst hj
        rw [List.getElem?_append_right (by simp)] at e
        simp at e
        subst e
        rw [if_pos rfl, if_pos rfl, if_pos rfl]
        exact ⟨rfl, rfl, rfl, hpc, f5⟩
  · obtain ⟨b1, b2, b3, b4, b5, b6, b7, b8, b9⟩ := t5
    exact ⟨by rw [o4 48 1 (by decide)]; exact b1, by rw [o1]; exact b2, by rw [o1]; exact b3, by rw [o6]; exact b4, by rw [o4 48 2 (by decide)]; exact b5, b6, by rw [o1]; exact b7, b8, by rw [o6]; exact b9⟩
  · obtain ⟨d1, d2, d3, d4, d5⟩ := t6
    exact ⟨by rw [o4 47 18 (by decide)]; exact d1, by rw [o4 47 16 (by decide)]; exact d2, by rw [o5]; exact d3, by rw [o4 47 15 (by decide)]; exact d4, d5⟩
  · obtain ⟨p1, ⟨f, p2, p3, p4, p5, p6⟩, p7, p8, p9, p10, p11⟩ := t7
    exact ⟨by rw [o1]; exact p1, ⟨f, p2, by rw [o4 50 1 (by decide)]; exact p3, by rw [o4 50 2 (by decide)]; exact p4, p5, by rw [o7 51 (by decide) (by decide) (by decide)]; exact p6⟩, by rw [o4 50 4 (by decide)]; exact p7, p8, by rw [o1]; exact p9, by rw [o1]; exact p10, by rw [o7 52 (by decide) (by decide) (by decide)]; exact p11⟩
/-- the stack has room -/
theorem rx_53 (r : RX G p ((pc, s), (ba, se, bk, cap), (F, ce, gc), P) h) (hn : n ≤ 310000) : RX G p ((pc, s), (ba, se, bk, max cap n), (F, ce, gc), P) (rmJ h 53 n) := by
  obtain ⟨r1, r2, r3, r4, r5, r6, r7⟩ := r
  obtain ⟨g1, g2⟩ := gro_J r1.1 (a := 53) (by decide) n
  have h130 := r1.1.2.2
  have e := (rmJ_r h 53 n (by omega)).2.2.2.2.2.2.2.2.1
  have hc := (r1.2.2.1.2.2 53 (by decide)).2
  have hc2 : cpR 53 = 620000 := rfl
  have hb : hN (rmJ h 53 n) 53 ≤ 620000 := by
    by_cases c : n ≤ hN h 53
    · rw [if_pos c] at e; omega
    · rw [if_neg c] at e; omega
  obtain ⟨a1, a2, a3, a4, a5⟩ := r3
  have a2 : s.length ≤ hN h 53 := a2
  have a3 : cap ≤ hN h 53 := a3
  have l1 := g1.2.2.2.2.2.1
  have l2 := g1.2.2.2.2.2.2.1
  refine ⟨sx_gro g1 r1 (by decide) (by decide) (by rw [hc2]; exact hb), by rw [g1.2.1]; exact r2, ⟨by rw [g1.2.1]; exact a1, ?_, ?_, by omega, fun i x q => ?_⟩, rxf_gro g1 (by decide) r4, rxh_gro g1 (by decide) r5, rxd_gro g1 r6, rxp_gro g1 (by decide) r7⟩
  · show s.length ≤ _
    omega
  · show max cap n ≤ _
    omega
  · have q : s[i]? = some x := q
    have := g_lt q
    rw [g2 i (by omega)]; exact a5 i x q
/-- steps are counted -/
theorem rx_st (r : RX G p ((pc, s), (ba, se, bk, cap), (F, ce, gc), (inp, out, th, st, lt, lf)) h) : RX G p ((pc, s), (ba, se, bk, cap), (F, ce, gc), (inp, out, th, st + 1, lt, lf - 1)) (hSt h lf st) := by
  obtain ⟨r1, r2, r3, r4, r5, ⟨d1, d2, d3, d4, d5⟩, r7⟩ := r
  have d5 : lf ≤ 20000 := d5
  exact ⟨sx_I (by decide) (sx_I (by decide) r1), r2, r3, r4, r5, ⟨d1, rfl, d3, rfl, show lf - 1 ≤ 20000 by omega⟩, r7⟩
/-- another place, another procedure -/
theorem rx_go (r : RX G p ((pc, s), (ba, se, bk, cap), (F, ce, gc), P) h) {pc' : Nat} {se' : Int32} (hp : pc' < 1000000) : RX G p ((pc', s), (ba, se', bk, cap), (F, ce, gc), P) (pI (pI h 47 6 se') 47 7 (nI pc')) := by
  obtain ⟨r1, r2, r3, ⟨f1, f2, f3, f4, f5, f6, f7, f8, f9, f10⟩, r5, r6, r7⟩ := r
  exact ⟨sx_I (by decide) (sx_I (by decide) r1), r2, r3, ⟨f1, rfl, rfl, f4, f5, hp, f7, f8, f9, f10⟩, r5, r6, r7⟩
theorem rx_cl {a en dm : Nat} (r : RX G p ((pc, s), (ba, se, bk, cap), (F, ce, gc), (inp, out, th, st, lt, lf)) h) (hbk : bk.length < 1000) (hpc : pc + 1 < 1000000) {b2 : Nat} (hb2 : b2 + dm ≤ 310000) (hen : en < 1000000) : RX G p ((en, s), (b2, nI a, (pc + 1, ba, se) :: bk, max cap (b2 + dm)), (F, ce, gc), (inp, out, th, st + 1, lt, lf - 1)) (hCl (hSt h lf st) bk.length pc ba se b2 a en dm) := by
  unfold hCl
  exact rx_53 (rx_go (rx_op (rx_st r) hbk hpc (by omega)) hen) hb2
theorem rx_lc {a en dm : Nat} (r : RX G p ((pc, t ++ c :: xs), (ba, se, bk, cap), (F, ce, gc), (inp, out, th, st, lt, lf)) h) (h1 : 1 ≤ ba) (h2 : ba ≤ t.length) (hg : xs.length = g) (hb2 : ba + dm ≤ 310000) (hen : en < 1000000) : RX G p ((en, t.take (ba - 1) ++ c :: xs), (ba, nI a, bk, max cap (ba + dm)), (F, ce, gc), (inp, out, th, st + 1, lt, lf - 1)) (hLc (hSt h lf st) ba t.length g a en dm) := by
  unfold hLc
  have r' := rx_st r
  generalize hSt h lf st = H at *
  refine rx_53 (rx_go (pc := pc) (se := se) ?_ hen) hb2
  obtain ⟨r1, r2, ⟨a1, a2, a3, a4, a5⟩, r4, r5, r6, r7⟩ := r'
  have a2 : (t ++ c :: xs).length ≤ hN H 53 := a2
  simp at a2
  refine ⟨sx_I (by decide) (sx_B r1), r2, ⟨?_, ?_, a3, a4, fun i x q => ?_⟩, r4, r5, r6, r7⟩
  · show nI (ba - 1 + 1 + g) = nI (t.take (ba - 1) ++ c :: xs).length
    congr 1
    simp
    omega
  · show (t.take (ba - 1) ++ c :: xs).length ≤ hN H 53
    simp
    omega
  · show mvd (hB H 53) (ba - 1) t.length (g + 1) i = x
    have q : (t.take (ba - 1) ++ c :: xs)[i]? = some x := q
    have hl : (t.take (ba - 1)).length = ba - 1 := by simp; omega
    unfold mvd
    by_cases c1 : i < ba - 1
    · rw [List.getElem?_append_left (by omega), List.getElem?_take_of_lt c1] at q
      rw [if_neg (by omega)]
      exact a5 i x (g_app q)
    · rw [List.getElem?_append_right (by omega), hl] at q
      have := g_lt q
      simp only [List.length_cons] at this
      rw [if_pos (by omega)]
      refine a5 _ x ?_
      show (t ++ c :: xs)[t.length + (i - (ba - 1))]? = some x
      rw [List.getElem?_append_right (by omega), Nat.add_sub_cancel_left]
      exact q
theorem rx_bk {pb bb : Nat} {sb : Int32} {bk' : List BK} (r : RX G p ((pc, s ++ [v]), (ba, se, (pb, bb, sb) :: bk', cap), (F, ce, gc), P) h) (h1 : 1 ≤ ba) (h2 : ba ≤ s.length) (hc : (s ++ [v]).length ≤ cap) : RX G p ((pb, s.take (ba - 1) ++ [v]), (bb, sb, bk', cap), (F, ce, gc), P) (hBk h s.length ba v bk'.length pb bb sb) := by
  obtain ⟨r1, r2, r3, ⟨f1, f2, f3, f4, f5, f6, f7, ⟨f8, f8b, f8c⟩, f9, f10⟩, r5, r6, r7⟩ := r
  obtain ⟨q1, q2, q3, q4⟩ := rxs_pop r3
  obtain ⟨a1, a2, a3, a4, a5⟩ := r3
  have f7 : bk'.length + 1 ≤ 1000 := f7
  have f8 : bk'.length + 1 ≤ hN h 54 := f8
  have f8b : bk'.length + 1 ≤ hN h 55 := f8b
  have f8c : bk'.length + 1 ≤ hN h 56 := f8c
  obtain ⟨g1, g2, g3, g4, g5⟩ := f10 bk'.length _ rev_last
  unfold hBk
  have hl : (s.take (ba - 1)).length = ba - 1 := by simp; omega
  have rt : RXs cap (s.take (ba - 1)) (pI (pI h 47 4 (nI s.length)) 47 4 (nI (ba - 1))) := by
    refine ⟨by rw [hl]; rfl, ?_, a3, a4, fun i x q => ?_⟩
    · rw [hl]; show ba - 1 ≤ hN h 53; omega
    · have hi := g_lt q
      rw [hl] at hi
      rw [List.getElem?_take_of_lt hi] at q
      exact a5 i x (g_app q)
  have rp := rxs_push (v := v) rt (by rw [hl]; simp at hc; omega)
  rw [hl] at rp
  refine ⟨sx_I (by decide) (sx_I (by decide) (sx_I (by decide) (sx_I (by decide) (sx_I (by decide) (sx_B (sx_I (by decide) (sx_I (by decide) r1))))))), r2, rp, ⟨rfl, rfl, rfl, rfl, g5, g4, show bk'.length ≤ 1000 by omega, ⟨show bk'.length ≤ hN h 54 by omega, show bk'.length ≤ hN h 55 by omega, show bk'.length ≤ hN h 56 by omega⟩, f9, fun j b e => ?_⟩, r5, r6, r7⟩
  refine f10 j b ?_
  show ((pb, bb, sb) :: bk').reverse[j]? = some b
  rw [List.reverse_cons]
  exact g_app e
end COI
