/-! RUN: the class, then the reference -/
/-- the map of now, and what a run leaves alone, written behind the quotes' values -/
def qe (qv : Nat → Int64) (D : VD) (h : Hp) (n : Nat) : Int64 :=
  if n < 900000 then qv n else if n < 999990 then (hA h 60 (n - 900000)).toInt64 else if n = 999990 then (hI h 59 1).toInt64 else if n = 999991 then (hI h 59 2).toInt64 else if n = 999992 then (hI h 59 3).toInt64 else if n = 999993 then (hI h 59 19).toInt64 else if n < 999998 then hB h 129 (n - 999994) else if n = 999998 then Int64.ofNat D.2.2.1 else if n = 999999 then Int64.ofNat D.2.2.2 else if n % 2 = 0 then Int64.ofNat (min (D.1 ((n - 1000000) / 2)) 20000000) else Int64.ofNat (D.2.1 ((n - 1000001) / 2))
theorem cl_nat {x : Nat} (h : x < 10000000000) : (Int64.ofNat x).toNatClampNeg = x := by
  rw [Int64.toNatClampNeg]
  rw [Int64.toInt_ofNat_of_lt (by omega)]
  rfl
section ORN
variable {h g : Hp} {G : PG} {p q : Nat} {qv : Nat → Int64} {pm : List Nat} {pl : List (Nat × Nat)} {z : CSt} {y : RSt} {D : VD} {k : Nat}
theorem qe_lo {n : Nat} (hn : n < 900000) : qe qv D h n = qv n := if_pos hn
theorem kq_qe (e : hR h 59 18 = some (152 - q)) : Kq q (qe qv D h) h := by
  refine ⟨⟨?_, ?_, ?_, ?_⟩, fun j hj => ?_, fun j hj => ?_, e⟩
  · unfold qe
    rw [if_neg (by omega), if_neg (by omega), if_pos rfl]
    exact (i64_32 _).symm
  · unfold qe
    rw [if_neg (by omega), if_neg (by omega), if_neg (by omega), if_pos rfl]
    exact (i64_32 _).symm
  · unfold qe
    rw [if_neg (by omega), if_neg (by omega), if_neg (by omega), if_neg (by omega), if_pos rfl]
    exact (i64_32 _).symm
  · unfold qe
    rw [if_neg (by omega), if_neg (by omega), if_neg (by omega), if_neg (by omega), if_neg (by omega), if_pos rfl]
    exact (i64_32 _).symm
  · unfold qe
    rw [if_neg (by omega), if_pos (by omega), Nat.add_sub_cancel_left]
    exact (i64_32 _).symm
  · unfold qe
    rw [if_neg (by omega), if_neg (by omega), if_neg (by omega), if_neg (by omega), if_neg (by omega), if_neg (by omega), if_pos (by omega), Nat.add_sub_cancel_left]
theorem dq_qe (J : VJ D) : (dQ (qe qv D h)).2.2.1 = D.2.2.1 ∧ (dQ (qe qv D h)).2.2.2 = D.2.2.2 ∧ (∀ i, (dQ (qe qv D h)).1 i = min (D.1 i) 20000000) ∧ ∀ i, i < D.2.2.2 → (dQ (qe qv D h)).2.1 i = D.2.1 i := by
  obtain ⟨j1, j2, j3, j4, j5⟩ := J
  refine ⟨?_, ?_, fun i => ?_, fun i hi => ?_⟩
  · show (qe qv D h 999998).toNatClampNeg = _
    unfold qe
    rw [if_neg (by omega), if_neg (by omega), if_neg (by omega), if_neg (by omega), if_neg (by omega), if_neg (by omega), if_neg (by omega), if_pos rfl]
    exact cl_nat (by omega)
  · show (qe qv D h 999999).toNatClampNeg = _
    unfold qe
    rw [if_neg (by omega), if_neg (by omega), if_neg (by omega), if_neg (by omega), if_neg (by omega), if_neg (by omega), if_neg (by omega), if_neg (by omega), if_pos rfl]
    exact cl_nat (by omega)
  · show (qe qv D h (1000000 + 2 * i)).toNatClampNeg = _
    unfold qe
    rw [if_neg (by omega), if_neg (by omega), if_neg (by omega), if_neg (by omega), if_neg (by omega), if_neg (by omega), if_neg (by omega), if_neg (by omega), if_neg (by omega), if_pos (by omega), show (1000000 + 2 * i - 1000000) / 2 = i by omega]
    exact cl_nat (by omega)
  · show (qe qv D h (1000001 + 2 * i)).toNatClampNeg = _
    unfold qe
    rw [if_neg (by omega), if_neg (by omega), if_neg (by omega), if_neg (by omega), if_neg (by omega), if_neg (by omega), if_neg (by omega), if_neg (by omega), if_neg (by omega), if_neg (by omega), show (1000001 + 2 * i - 1000001) / 2 = i by omega]
    have := j3 i hi
    exact cl_nat (by omega)
theorem dw_qe (J : VJ D) : DW (dQ (qe qv D h)) D := by
  obtain ⟨d1, d2, d3, d4⟩ := dq_qe (qv := qv) (h := h) J
  refine ⟨fun i h1 h2 => ?_, fun i h1 => ?_⟩
  · rw [d1] at h1
    rw [d3] at h2 ⊢
    exact ⟨h1, by omega⟩
  · rw [d2] at h1
    exact ⟨h1, (d4 i h1).symm⟩
theorem vr_qe (J : VJ D) {v w : Int64} (r : VR D v w) : VR (dQ (qe qv D h)) v w := by
  obtain ⟨d1, d2, d3, d4⟩ := dq_qe (qv := qv) (h := h) J
  rcases r with r | ⟨i, ⟨i1, i2⟩, e1, e2⟩ | ⟨i, i1, e1, e2⟩ | r
  · exact Or.inl r
  · have e : min (D.1 i) 20000000 = D.1 i := by omega
    exact Or.inr (Or.inl ⟨i, ⟨by rw [d1]; exact i1, by rw [d3, e]; exact i2⟩, by rw [d3, e]; exact e1, e2⟩)
  · exact Or.inr (Or.inr (Or.inl ⟨i, by rw [d2]; exact i1, by rw [d4 i i1]; exact e1, e2⟩))
  · exact Or.inr (Or.inr (Or.inr r))
theorem cor_qe {ty : TY} {s : List Int64} {sh : List Nat} {wk F : List Int64} {ce : Nat} {gc bx : List Int64} {ps : List (Nat × List Nat)} {pa : List (Int64 × Int64)} {gr : List Int64} (hW : WG G) (c : Cor G qv pm pl ty s sh wk F ce gc bx ps pa gr) : Cor G (qe qv (Dv pm pl) h) pm pl ty s sh wk F ce gc bx ps pa gr := by
  have J := cor_vj c
  obtain ⟨c1, c2, c3, c4, c5, c6, c7, c8⟩ := c
  refine ⟨c1, c2, c3, c4, c5, c6, ⟨fun n hn => ?_, dw_qe J⟩, c8⟩
  have h1 : n < pNn G := hn.1
  have h2 := hW.2.2.1
  rw [qe_lo (by omega)]
  exact c7.1 n hn
theorem bks_le : ∀ {bk : List BK}, bks G bk ≤ bk.length * (pCz G + 1)
  | [] => Nat.zero_le _
  | b :: l => by
    have := bks_le (bk := l)
    simp only [bks, List.length_cons, Nat.succ_mul]
    omega
/-- the ports as lists -/
theorem po_in (r : Rm h) (i : PoI h) (o : PoO h) : ∃ inp out, RXp inp out h ∧ MXp inp out h := by
  obtain ⟨i1, i2, f, c, i3, i4, i5, i6, i7, i8⟩ := i
  obtain ⟨o1, u, o2, o3, o4, o5, o6⟩ := o
  have h52 := (r.2.2 52 (by decide)).2
  have c52 : cpR 52 = 3100 := rfl
  refine ⟨(List.range c).map (hA h 127), (List.range u).map (hA h 128), ⟨i1, ⟨f, i3, i5, ?_, ?_, fun j x e => ?_⟩, ?_, ?_, ?_, by omega, fun j x e => ?_⟩, ⟨i2, ?_, ?_, fun j x e => ?_⟩, o1, ?_, ?_, fun j x e => ?_⟩
  · rw [List.length_map, List.length_range]; exact i6
  · rw [List.length_map, List.length_range]; exact i4
  · have hj := g_lt e
    rw [List.length_map, List.length_range] at hj
    rw [List.getElem?_map, List.getElem?_range hj] at e
    injection e with e
    rw [i8 j hj]; exact e
  · rw [List.length_map, List.length_range]; exact o4
  · rw [List.length_map, List.length_range]; exact o2
  · rw [List.length_map, List.length_range]; exact o3
  · have hj := g_lt e
    rw [List.length_map, List.length_range] at hj
    rw [List.getElem?_map, List.getElem?_range hj] at e
    injection e with e
    rw [o6 j hj]; exact e
  · rw [List.length_map, List.length_range]; exact i7
  · rw [List.length_map, List.length_range]; exact i4
  · have hj := g_lt e
    rw [List.length_map, List.length_range] at hj
    rw [List.getElem?_map, List.getElem?_range hj] at e
    injection e
  · rw [List.length_map, List.length_range]; exact o5
  · rw [List.length_map, List.length_range]; exact o2
  · have hj := g_lt e
    rw [List.length_map, List.length_range] at hj
    rw [List.getElem?_map, List.getElem?_range hj] at e
    injection e
theorem po_out {inp out : List Int32} (x : RXp inp out h) (m : MXp inp out h) : PoI h ∧ PoO h := by
  obtain ⟨x1, ⟨f, x2, x3, x4, x5, x6⟩, x7, x8, x9, x10, x11⟩ := x
  obtain ⟨⟨m1, m2, m3, m4⟩, m5, m6, m7, m8⟩ := m
  refine ⟨⟨x1, m1, f, inp.length, x2, x5, x3, x4, m2, fun j hj => ?_⟩, ⟨m5, out.length, x8, x9, x7, m6, fun j hj => ?_⟩⟩
  · obtain ⟨x, e⟩ := g_some hj
    rw [x6 j x e, m4 j x e]
  · obtain ⟨x, e⟩ := g_some hj
    rw [x11 j x e, m8 j x e]
/-- what the machine's work may touch; what the reference's calls may touch -/
abbrev Xc (k : Nat) : Prop := (19 ≤ k ∧ k ≤ 38) ∨ (47 ≤ k ∧ k ≤ 57) ∨ 130 ≤ k
abbrev Xm (k : Nat) : Prop := 59 ≤ k
theorem rtl_c : ∀ e, e ∈ RTl → Xc e.1.1 → Xc e.2 := by decide +kernel
theorem rtl_m : ∀ e, e ∈ RTl → Xm e.1.1 → Xm e.2 := by decide +kernel
theorem vr_is {a b : Nat} (c : isVr a b = true) : (a = 0 ∧ b = 6) ∨ (a = 0 ∧ b = 7) ∨ (a = 39 ∧ b = 3) ∨ (a = 47 ∧ b = 2) ∨ (a = 3 ∧ b = 12) ∨ (a = 59 ∧ b = 17) ∨ (a = 59 ∧ b = 18) := by
  unfold isVr at c
  simp only [Bool.or_eq_true, Bool.and_eq_true, beq_iff_eq] at c
  omega
theorem rg_c (s : Sk h) (v : Vs p q h) : Rg Xc h := by
  have h130 := s.2.2
  have sb : SB = 1000000 := rfl
  refine ⟨fun k hk => Or.inr (Or.inr (by omega)), fun k hk => Or.inr (Or.inr (by omega)), fun a b r ha e => ?_⟩
  cases c : isVr a b with
  | false =>
    rw [s.2.1 a b c] at e
    exact rtl_c _ (lkm_rt e) ha
  | true =>
    have hc := vr_is c
    unfold Xc at ha ⊢
    have : a = 47 ∧ b = 2 := by omega
    obtain ⟨rfl, rfl⟩ := this
    rcases v.2.2.2.2 with e2 | e2 <;> (rw [e2] at e; injection e with e; omega)
theorem rg_m (s : Sk h) (v : Vs p q h) : Rg Xm h := by
  have h130 := s.2.2
  have sb : SB = 1000000 := rfl
  refine ⟨fun k hk => by unfold Xm; omega, fun k hk => by unfold Xm; omega, fun a b r ha e => ?_⟩
  cases c : isVr a b with
  | false =>
    rw [s.2.1 a b c] at e
    exact rtl_m _ (lkm_rt e) ha
  | true =>
    have hc := vr_is c
    unfold Xm at ha ⊢
    have : a = 59 ∧ (b = 17 ∨ b = 18) := by omega
    obtain ⟨rfl, hb⟩ := this
    rcases v.2.1 with ⟨_, e2, e3⟩ | ⟨_, e2, e3⟩ <;> rcases hb with rfl | rfl <;> first | (rw [e2] at e; injection e with e; omega) | (rw [e3] at e; injection e with e; omega)
/-- the class's run is over: what the reference finds -/
theorem sm_x (e : Sm Xc h g) : AgM h g ∧ (∀ a, 59 ≤ a → a < 130 → hI g a = hI h a ∧ hL g a = hL h a ∧ hR g a = hR h a ∧ hA g a = hA h a ∧ hB g a = hB h a ∧ hN g a = hN h a) ∧ (∀ a, (a < 19 ∨ (39 ≤ a ∧ a ≤ 46) ∨ a = 58) → hI g a = hI h a ∧ hL g a = hL h a ∧ hR g a = hR h a ∧ hA g a = hA h a ∧ hB g a = hB h a ∧ hN g a = hN h a) := by
  have k1 : ∀ a, 59 ≤ a → a < 130 → hI g a = hI h a ∧ hL g a = hL h a ∧ hR g a = hR h a ∧ hA g a = hA h a ∧ hB g a = hB h a ∧ hN g a = hN h a := fun a h1 h2 => by
    obtain ⟨e1, e2, e3, e4, e5, e6, _⟩ := e a (by unfold Xc; omega)
    exact ⟨e1, e2, e3, e4, e5, e6⟩
  refine ⟨⟨fun i _ _ _ => by rw [(k1 59 (by decide) (by decide)).1], fun i _ => by rw [(k1 59 (by decide) (by decide)).2.1], fun a h1 h2 => ?_⟩, k1, fun a ha => ?_⟩
  · obtain ⟨_, _, _, e4, e5, e6⟩ := k1 a (by omega) (by omega)
    exact ⟨e4, e5, e6⟩
  · obtain ⟨e1, e2, e3, e4, e5, e6, _⟩ := e a (by unfold Xc; omega)
    exact ⟨e1, e2, e3, e4, e5, e6⟩
theorem sm_m (e : Sm Xm h g) : AgX h g ∧ ∀ a, a < 59 → hI g a = hI h a ∧ hL g a = hL h a ∧ hR g a = hR h a ∧ hA g a = hA h a ∧ hB g a = hB h a ∧ hN g a = hN h a := by
  have k1 : ∀ a, a < 59 → hI g a = hI h a ∧ hL g a = hL h a ∧ hR g a = hR h a ∧ hA g a = hA h a ∧ hB g a = hB h a ∧ hN g a = hN h a := fun a h1 => by
    obtain ⟨e1, e2, e3, e4, e5, e6, _⟩ := e a (by unfold Xm; omega)
    exact ⟨e1, e2, e3, e4, e5, e6⟩
  refine ⟨⟨⟨(k1 47 (by decide)).1, (k1 48 (by decide)).1, (k1 47 (by decide)).2.1⟩, fun a ha => ?_⟩, k1⟩
  obtain ⟨_, _, _, e4, e5, e6⟩ := k1 a (by omega)
  exact ⟨e4, e5, e6⟩
/-- a run is over: what holds again -/
theorem run_fin {inp out : List Int32} {r : Nat} (I : InvC (CoreM Mach) k h) (vs : Vs p q h) (n1 : hI h 59 19 = 1) (ps : PS G) (J : VJ D) (pt : Pt D h)
    (sx : SX G p g) (sm : SM G q (qe qv D h) g) (rw' : RWn z g) (rx : RXp inp out g) (rz : RZn y g) (mx : MXp inp out g) (a1 : hI g 47 13 = nI r) (a2 : hI g 59 60 = nI r) (p1 : hL g 0 9 = z.2.2.2.2.2.2.2.1) (p2 : hL g 59 63 = y.2.2.2.2.2.2.2.2.1)
    (same : ∀ a, (a < 19 ∨ (39 ≤ a ∧ a ≤ 46) ∨ a = 58) → hI g a = hI h a ∧ hR g a = hR h a ∧ hA g a = hA h a ∧ hB g a = hB h a) (mid : Mid G (qe qv D h) pm pl z y) (lv : Live G (qe qv D h) pm pl z y g) : InvC (CoreM Mach) (k + 1) g := by
  obtain ⟨hp, hq⟩ := vs_p vs
  obtain ⟨s, ⟨t, t1, t2, t3, t4, t5, t6⟩, ⟨f1, f2⟩, pi, po, hh, _⟩ := I
  have sk := sx.1
  have rm := sx.2.2.1
  obtain ⟨m1, m2, m3, m4, m5, m6, m7, ⟨⟨q1, q2, q3, q4⟩, q5, q6, q7⟩⟩ := sm
  have r18 : hR h 59 18 = some (152 - q) := by
    rcases vs.2.1 with ⟨rfl, _, e⟩ | ⟨rfl, _, e⟩ <;> exact e
  obtain ⟨⟨u1, u2, u3, u4⟩, u5, u6, u7⟩ := kq_qe (qv := qv) (D := D) r18
  obtain ⟨pi', po'⟩ := po_out rx mx
  have e0 := same 0 (by omega)
  have e1 := same 1 (by omega)
  have e2 := same 2 (by omega)
  have e3 := same 3 (by omega)
  have e39 := same 39 (by omega)
  have e58 := same 58 (by omega)
  obtain ⟨md1, vr, ty, s0, sh, wk, cor⟩ := id mid
  have dw := cor.2.2.2.2.2.2.1.2
  refine ⟨sk, ⟨t, t1, by rw [e0.1]; exact t2, by rw [q1, ← u1]; exact t3, fun j hj => ?_, rm.1.2 (1, 3000) (by decide), rm.1.2 (60, 3000) (by decide)⟩, ⟨?_, ?_⟩, pi', po', ?_, Dv pm pl, cor_vj cor, ⟨?_, fun j hj => ?_, rm.1.2 (58, 4) (by decide), rm.1.2 (129, 4) (by decide)⟩, sk, sx.2.1, rm, ?_, p, q, ?_, Or.inr ⟨?_, G, qe qv D h, pm, pl, z, y, rfl, ps, sx, ⟨m1, m2, m3, m4, m5, m6, m7⟩, rw', rz, a1.trans a2.symm, mid, lv⟩⟩
  · rw [e1.2.2.1, q5 j (by omega), ← u5 j (by omega)]; exact t4 j hj
  · rw [e2.1, q2, ← u2]; exact f1
  · rw [e2.1, q3, ← u3]; exact f2
  · rw [e0.1, q4, ← u4]; exact hh
  · rw [p1, p2]; exact vr
  · rw [e58.2.2.2, q6 j hj, ← u6 j hj]
    exact vr_dw dw (vr_qe J (pt.2.1 j hj))
  · obtain ⟨z1, z2, z3, z4, z5, z6⟩ := rz
    exact ⟨z1.2.2.1, z3.2.2.1, z3.1.2.2.2.2.2.2, _, z5.2.2.2.2.2.2, z5.2.2.2.2.2.1⟩
  · refine ⟨?_, ?_, by rw [e39.2.1]; exact vs.2.2.1, by rw [e3.2.1]; exact vs.2.2.2.1, ?_⟩
    · unfold PgX; rw [e0.2.1]; exact vs.1
    · rcases hq with rfl | rfl
      · exact Or.inl ⟨rfl, m5, q7⟩
      · exact Or.inr ⟨rfl, m5, q7⟩
    · rcases hp with rfl | rfl
      · exact Or.inl sx.2.2.2.2.1
      · exact Or.inr sx.2.2.2.2.1
  · rw [q4, ← u4]; exact n1
end ORN
