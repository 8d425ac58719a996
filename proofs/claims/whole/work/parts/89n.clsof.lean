/-! closures made -/
theorem sh_1000 : ∀ w, w < 1000 → nI w >>> (1 &&& 31) = nI (w / 2) ∧ nI w &&& 1 = nI (w % 2) := by decide +kernel
section CORF
variable {h h' : Hp} {Q : Option Value → Hp → Prop} {d : Nat} {G : PG} {p pc : Nat} {cap : Nat} {s t xs : List Int64} {v x y c : Int64} {a b o : Int32} {ba : Nat} {se : Int32} {bk : List BK} {F F' : List Int64} {ce ce' : Nat} {gc : List Int64} {r n M i g : Nat} {inp out : List Int32} {th st lf : Nat} {lt : Int64}
/-- all but the operation's place and what goes on -/
def RY (G : PG) (p pc ba : Nat) (se : Int32) (bk : List BK) (cap : Nat) (gc : List Int64) (P : List Int32 × List Int32 × Nat × Nat × Int64 × Nat) (s F : List Int64) (ce : Nat) (h : Hp) : Prop := RX G p ((pc, s), (ba, se, bk, cap), (F, ce, gc), P) h
variable {P : List Int32 × List Int32 × Nat × Nat × Int64 × Nat}
theorem ry_F {F' : List Int64} {ce' : Nat} (r : RY G p pc ba se bk cap gc P s F ce h) (S : SX G p h') (kp : Keep h h') (rh : RXh F' ce' gc h') (rp : RXp P.1 P.2.1 h → RXp P.1 P.2.1 h') : RY G p pc ba se bk cap gc P s F' ce' h' := by
  obtain ⟨r1, r2, r3, r4, r5, r6, r7⟩ := r
  exact ⟨S, kp.2.2.2.trans r2, kp.1 _ _ r3, kp.2.1 _ _ _ _ r4, rh, kp.2.2.1 _ _ _ _ r6, rp r7⟩
theorem rxh_bind (S : SX G p h) (q : RXh F ce gc h) (hF : F.length ≤ 140000) : SX G p (hBind h 48 49 F.length x) ∧ Keep h (hBind h 48 49 F.length x) ∧ RXh (F ++ [x]) ce gc (hBind h 48 49 F.length x) ∧ (∀ inp out, RXp inp out h → RXp inp out (hBind h 48 49 F.length x)) := by
  obtain ⟨s1, g1, g2, g3⟩ := sx_r49 S (n := F.length + 1) (by omega)
  obtain ⟨q1, q2⟩ := rxh_r49 S (n := F.length + 1) (by omega) q
  unfold hBind
  have kp := kp_gro g1 (by decide)
  have rp : ∀ inp out, RXp inp out h → RXp inp out (rmJ h 49 (F.length + 1)) := fun _ _ q => rxp_gro g1 (by decide) q
  generalize rmJ h 49 (F.length + 1) = H at *
  obtain ⟨b1, b2, b3, b4, b5, b6, b7, b8, b9⟩ := q1
  refine ⟨sx_B (sx_I (by decide) s1), kp_tr kp (kp_tr (kp_I (by decide)) (kp_B (by decide))), ⟨?_, ?_, b3, upd_app b4, b5, b6, b7, b8, b9⟩, fun _ _ q => show RXp _ _ (pI H 48 1 (nI (F.length + 1))) from rxp_I (by decide) (rp _ _ q)⟩
  · show nI (F.length + 1) = _
    simp
  · simp only [List.length_append, List.length_singleton]
    exact q2
/-- a binding that is shared -/
theorem sp_shared {P0 : Nat} (hd : 6 < d) (r : RY G p pc ba se bk cap gc P s F ce h) (hF : F.length ≤ 139999) (e : s[P0]? = some x) (h1 : ∀ m, x = vof 10 (nI m) → Q (some (.int (nI m))) h) (h1b : vkd x = 10 → ∃ m, x = vof 10 (nI m)) (h2 : vkd x ≠ 10 → ∀ h', RY G p pc ba se bk cap gc P (s.set P0 (vof 10 (nI F.length))) (F ++ [x]) ce h' → Q (some (.int (nI F.length))) h') : aEv d 72 [.ref 47, .int (nI P0)] h Q := by
  have h0 : 0 < d := by omega
  have r0 := r
  obtain ⟨r1, r2, r3, r4, r5, r6, r7⟩ := r
  have k := r1.1
  obtain ⟨a1, a2, a3, a4, a5⟩ := r3
  have a1 : hI h 47 4 = nI s.length := a1
  have a2 : s.length ≤ hN h 53 := a2
  have hl := g_lt e
  have hx := a5 _ _ e
  unfold aEv
  simp only [lv_args, z_v, z_lg, z_h, z_u, z_u1, z_c, z_ct, z_sk, sbne, lst1_d, ldel, lst2_d, ldel2, z_sw, z_rok, zi, eq_self, List.map_cons, List.map_nil, List.append_nil, List.nil_append, List.cons_append, Int32.reduceLT, Int32.reduceLE, Int32.reduceAdd, Int32.reduceSub, Int32.reduceMul, Int32.reduceToInt, Int32.reduceToNatClampNeg, Int.reduceLT, Int.reduceLE, Int.reduceNeg, true_and, and_true, or_self, or_false, false_or, false_and, and_false, true_or, or_true, if_true, if_false, ne_eq, Classical.not_not, not_true_eq_false, not_false_eq_true, true_implies, false_implies, implies_true, Nat.reduceEqDiff, Nat.reduceAdd, Nat.reduceLeDiff, Nat.reduceSub, reduceCtorEq, reduceIte, b72_0, skX k, h0]
  refine sp_peek k (by omega) a4 ?_
  simp only [lv_args, z_v, z_lg, z_h, z_u, z_u1, z_c, z_ct, z_sk, sbne, lst1_d, ldel, lst2_d, ldel2, z_sw, z_rok, zi, eq_self, List.map_cons, List.map_nil, List.append_nil, List.nil_append, List.cons_append, Int32.reduceLT, Int32.reduceLE, Int32.reduceAdd, Int32.reduceSub, Int32.reduceMul, Int32.reduceToInt, Int32.reduceToNatClampNeg, Int.reduceLT, Int.reduceLE, Int.reduceNeg, true_and, and_true, or_self, or_false, false_or, false_and, and_false, true_or, or_true, if_true, if_false, ne_eq, Classical.not_not, not_true_eq_false, not_false_eq_true, true_implies, false_implies, implies_true, Nat.reduceEqDiff, Nat.reduceAdd, Nat.reduceLeDiff, Nat.reduceSub, reduceCtorEq, reduceIte, b72_0, skX k, h0, hx, e156v]
  refine ⟨fun c => ?_, fun c => ?_⟩
  · simp only [lv_args, z_v, z_lg, z_h, z_u, z_u1, z_c, z_ct, z_sk, sbne, lst1_d, ldel, lst2_d, ldel2, z_sw, z_rok, zi, eq_self, List.map_cons, List.map_nil, List.append_nil, List.nil_append, List.cons_append, Int32.reduceLT, Int32.reduceLE, Int32.reduceAdd, Int32.reduceSub, Int32.reduceMul, Int32.reduceToInt, Int32.reduceToNatClampNeg, Int.reduceLT, Int.reduceLE, Int.reduceNeg, true_and, and_true, or_self, or_false, false_or, false_and, and_false, true_or, or_true, if_true, if_false, ne_eq, Classical.not_not, not_true_eq_false, not_false_eq_true, true_implies, false_implies, implies_true, Nat.reduceEqDiff, Nat.reduceAdd, Nat.reduceLeDiff, Nat.reduceSub, reduceCtorEq, reduceIte, b72_20, skX k, srX k, h0]
    obtain ⟨g1, g2, g3, g4⟩ := rxh_bind (x := x) r1 r5 (by show F.length ≤ 140000; omega)
    refine sp_newBinding (by omega) (hps_of r1 r5) (by decide) ?_
    have k' := g1.1
    have rs := g2.1 _ _ (⟨a1, a2, a3, a4, a5⟩ : RXs cap s h)
    simp only [lv_args, z_v, z_lg, z_h, z_u, z_u1, z_c, z_ct, z_sk, sbne, lst1_d, ldel, lst2_d, ldel2, z_sw, z_rok, zi, eq_self, List.map_cons, List.map_nil, List.append_nil, List.nil_append, List.cons_append, Int32.reduceLT, Int32.reduceLE, Int32.reduceAdd, Int32.reduceSub, Int32.reduceMul, Int32.reduceToInt, Int32.reduceToNatClampNeg, Int.reduceLT, Int.reduceLE, Int.reduceNeg, true_and, and_true, or_self, or_false, false_or, false_and, and_false, true_or, or_true, if_true, if_false, ne_eq, Classical.not_not, not_true_eq_false, not_false_eq_true, true_implies, false_implies, implies_true, Nat.reduceEqDiff, Nat.reduceAdd, Nat.reduceLeDiff, Nat.reduceSub, reduceCtorEq, reduceIte, b72_20, skX k, skX k', h0, Nat.reduceLT, e157v]
    refine sp_poke (h := hBind h 48 49 F.length x) k' (Nat.lt_of_lt_of_le hl rs.2.1) rs.2.2.2.1 ?_
    simp only [lv_args, z_v, z_lg, z_h, z_u, z_u1, z_c, z_ct, z_sk, sbne, lst1_d, ldel, lst2_d, ldel2, z_sw, z_rok, zi, eq_self, List.map_cons, List.map_nil, List.append_nil, List.nil_append, List.cons_append, Int32.reduceLT, Int32.reduceLE, Int32.reduceAdd, Int32.reduceSub, Int32.reduceMul, Int32.reduceToInt, Int32.reduceToNatClampNeg, Int.reduceLT, Int.reduceLE, Int.reduceNeg, true_and, and_true, or_self, or_false, false_or, false_and, and_false, true_or, or_true, if_true, if_false, ne_eq, Classical.not_not, not_true_eq_false, not_false_eq_true, true_implies, false_implies, implies_true, Nat.reduceEqDiff, Nat.reduceAdd, Nat.reduceLeDiff, Nat.reduceSub, reduceCtorEq, reduceIte, b72_20, skX k']
    refine h2 c _ ⟨sx_B g1, g2.2.2.2.trans r2, ⟨?_, ?_, rs.2.2.1, rs.2.2.2.1, upd_set rs.2.2.2.2⟩, g2.2.1 _ _ _ _ r4, g3, g2.2.2.1 _ _ _ _ r6, g4 _ _ r7⟩
    · show hI (hBind h 48 49 F.length x) 47 4 = nI (s.set P0 _).length
      rw [List.length_set]; exact rs.1
    · show (s.set P0 _).length ≤ hN (hBind h 48 49 F.length x) 53
      rw [List.length_set]; exact rs.2.1
  · obtain ⟨m, rfl⟩ := h1b c
    simp only [lv_args, z_v, z_lg, z_h, z_u, z_u1, z_c, z_ct, z_sk, sbne, lst1_d, ldel, lst2_d, ldel2, z_sw, z_rok, zi, eq_self, List.map_cons, List.map_nil, List.append_nil, List.nil_append, List.cons_append, Int32.reduceLT, Int32.reduceLE, Int32.reduceAdd, Int32.reduceSub, Int32.reduceMul, Int32.reduceToInt, Int32.reduceToNatClampNeg, Int.reduceLT, Int.reduceLE, Int.reduceNeg, true_and, and_true, or_self, or_false, false_or, false_and, and_false, true_or, or_true, if_true, if_false, ne_eq, Classical.not_not, not_true_eq_false, not_false_eq_true, true_implies, false_implies, implies_true, Nat.reduceEqDiff, Nat.reduceAdd, Nat.reduceLeDiff, Nat.reduceSub, reduceCtorEq, reduceIte, b72_15, h0, e155, vof_lo]
    exact h1 m rfl
theorem px_src (S : SX G p h) (h1 : 1 ≤ M) (h2 : M ≤ pLm G) (h3 : pLm G ≤ 120) {k : Nat} (hk : k < pFr G M) (hq : Q (some (.int (G.1 9 (pKs G M + k)))) h) : aEv d 107 [.ref p, .int (nI (M - 1)), .int (nI k)] h Q := by
  obtain ⟨s, _, _, ⟨P0, P1, P2, P3, P4, P5, P6, P7, _⟩, _⟩ := S
  obtain ⟨t1, t2, t3, t4, t5, z, z1, z2, z3, z4, z5⟩ := P7 M h1 h2
  have q7 := P6 7 (by decide) (by decide)
  have z5 := z5 k hk
  rcases P0 with rfl | rfl
  · have t4 : hA h 26 (M - 1) = nI (pKs G M) := t4
    have q7 : hN h 26 = 120 := q7
    have z3 : z ≤ hN h 28 := z3
    have z5 : hA h 28 (pKs G M + k) = G.1 9 (pKs G M + k) := z5
    rw [e107_19 _ _ s, P5, z1]
    simp (disch := omega) only [nI_leN, nI_lt0, nI_ti, nI_cl, le0N, ltNN, t4, q7, nI_add, z5]
    exact ⟨fun c => c.elim, fun _ => ⟨fun c => absurd c (by omega), fun _ => ⟨⟨trivial, by omega⟩, fun c => c.elim, fun _ => ⟨fun c => absurd c (by omega), fun _ => ⟨⟨trivial, by omega⟩, hq⟩⟩⟩⟩⟩
  · have t4 : hA h 36 (M - 1) = nI (pKs G M) := t4
    have q7 : hN h 36 = 120 := q7
    have z3 : z ≤ hN h 38 := z3
    have z5 : hA h 38 (pKs G M + k) = G.1 9 (pKs G M + k) := z5
    rw [e107_29 _ _ s, P5, z1]
    simp (disch := omega) only [nI_leN, nI_lt0, nI_ti, nI_cl, le0N, ltNN, t4, q7, nI_add, z5]
    exact ⟨fun c => c.elim, fun _ => ⟨fun c => absurd c (by omega), fun _ => ⟨⟨trivial, by omega⟩, fun c => c.elim, fun _ => ⟨fun c => absurd c (by omega), fun _ => ⟨⟨trivial, by omega⟩, hq⟩⟩⟩⟩⟩
theorem sp_ptk {a i m : Nat} (hd : 0 < d) (r : RY G p pc ba se bk cap gc P s F ce h) (ha : a + 1 + i < F.length) (hq : RY G p pc ba se bk cap gc P s (F.set (a + 1 + i) (nI m).toInt64) ce (pB h 49 (vp_updL (hB h 49) (a + 1 + i) (nI m).toInt64)) → Q none (pB h 49 (vp_updL (hB h 49) (a + 1 + i) (nI m).toInt64))) : aEv d 44 [.ref 48, .int (nI a), .int (nI i), .int (nI m)] h Q := by
  have r0 := r
  obtain ⟨r1, r2, r3, r4, r5, r6, r7⟩ := r
  have rs := rxh_set (x := (nI m).toInt64) r5 ha
  obtain ⟨b1, b2, b3, b4, b5, b6, b7, b8, b9⟩ := r5
  have b1 : hI h 48 1 = nI F.length := b1
  have b2 : F.length ≤ hN h 49 := b2
  rw [e44_48 _ _ r1.1, b1]
  simp (disch := omega) only [nI_1, nI_add, nI_leN, nI_lt0, nI_ti, nI_cl, le0N, ltNN]
  exact ⟨hd, fun c => c.elim, fun _ => ⟨fun c => absurd c (by omega), fun _ => ⟨⟨trivial, by omega⟩, hq (ry_F r0 (sx_B r1) (kp_B (by decide)) rs (fun q => q))⟩⟩⟩
theorem clo_loop {a : Nat} (hd : 9 < d) (h1 : 1 ≤ M) (h2 : M ≤ pLm G) (h3 : pLm G ≤ 120) (hfr : pFr G M ≤ 250) (hba : ba < 1000000) (s' F' : List Int64) (hq : ∀ L h', LX 47 L → lgv L 0 = .ref 47 → lgv L 3 = .int (nI a) → RY G p pc ba se bk cap gc P s' F' ce h' → aWP d 52 116 L [] h' Q) : ∀ (n i : Nat) (s F : List Int64) (h : Hp) (L : ALS), i + n = pFr G M → a + 1 + pFr G M ≤ F.length → F.length + n ≤ 139999 → Clo G M ba se a n i s F s' F' → RY G p pc ba se bk cap gc P s F ce h → LX 47 L → lgv L 0 = .ref 47 → lgv L 1 = .int (nI (M - 1)) → lgv L 2 = .int (nI (pFr G M)) → lgv L 3 = .int (nI a) → lgv L 4 = .int (nI i) → aWP d 52 42 L [] h Q := by
  have h0 : 0 < d := by omega
  have h01 : 0 < d - 1 := by omega
  intro n
  induction n with
  | zero =>
    intro i s F h L hi ha hF hc r lx l0 l1 l2 l3 l4
    obtain ⟨rfl, rfl⟩ := hc
    have : i = pFr G M := by omega
    subst this
    simp (disch := omega) only [b52_42, z_v, l2, l4, nI_leN, true_and]
    exact ⟨fun _ => hq L h lx l0 l3 r, fun q => absurd (Nat.le_refl _) q⟩
  | succ n ih =>
    intro i s F h L hi ha hF hc r lx l0 l1 l2 l3 l4
    obtain ⟨w, w1, w2, w3⟩ := hc
    have r0 := r
    obtain ⟨r1, r2, r3, r4, r5, r6, r7⟩ := r
    have k := r1.1
    have kp : hK h p = 7 := by rcases r1.2.2.2.1.1 with rfl | rfl <;> exact k.1 _ (by decide)
    have rr := r1.2.2.2.2.1
    obtain ⟨sh1, sh2⟩ := sh_1000 w w1
    simp (disch := omega) only [b52_42, z_v, l2, l4, nI_leN, true_and]
    refine ⟨fun q => absurd q (by omega), fun _ => ?_⟩
    simp only [lv_args, z_v, z_lg, z_h, z_u, z_u1, z_c, z_ct, z_sk, sbne, lst1_d, ldel, lst2_d, ldel2, z_rok, zi, eq_self, List.map_cons, List.map_nil, List.append_nil, List.nil_append, List.cons_append, Int32.reduceLT, Int32.reduceLE, Int32.reduceAdd, Int32.reduceSub, Int32.reduceMul, Int32.reduceToInt, Int32.reduceToNatClampNeg, Int.reduceLT, Int.reduceLE, Int.reduceNeg, true_and, and_true, or_self, or_false, false_or, false_and, and_false, true_or, or_true, if_true, if_false, ne_eq, Classical.not_not, not_true_eq_false, not_false_eq_true, true_implies, false_implies, implies_true, Nat.reduceEqDiff, Nat.reduceAdd, Nat.reduceLeDiff, Nat.reduceSub, reduceCtorEq, reduceIte, b52_48, skX k, h0, l0, l1, l4, rr, kp]
    refine px_src r1 h1 h2 h3 (by omega) ?_
    rw [w2]
    refine ⟨rfl, Or.inl rfl, ?_⟩
    show aWP d 52 58 L [.int (nI w)] h Q
    have lx1 := lx_st (i := 5) (x := nI w) lx
    have lx2 := lx_st (i := 6) (x := nI (w / 2)) lx1
    have m5 : lgv (lst1 L 5 (.int (nI w))) 5 = .int (nI w) := lgv_st
    have n6 : lgv (lst1 (lst1 L 5 (.int (nI w))) 6 (.int (nI (w / 2)))) 6 = .int (nI (w / 2)) := lgv_st
    have n5 : lgv (lst1 (lst1 L 5 (.int (nI w))) 6 (.int (nI (w / 2)))) 5 = .int (nI w) := (lx_ot lx1 (by decide)).trans m5
    have n0 : lgv (lst1 (lst1 L 5 (.int (nI w))) 6 (.int (nI (w / 2)))) 0 = .ref 47 := (lx_ot lx1 (by decide)).trans ((lx_ot lx (by decide)).trans l0)
    have n1 : lgv (lst1 (lst1 L 5 (.int (nI w))) 6 (.int (nI (w / 2)))) 1 = .int (nI (M - 1)) := (lx_ot lx1 (by decide)).trans ((lx_ot lx (by decide)).trans l1)
    have n2 : lgv (lst1 (lst1 L 5 (.int (nI w))) 6 (.int (nI (w / 2)))) 2 = .int (nI (pFr G M)) := (lx_ot lx1 (by decide)).trans ((lx_ot lx (by decide)).trans l2)
    have n3 : lgv (lst1 (lst1 L 5 (.int (nI w))) 6 (.int (nI (w / 2)))) 3 = .int (nI a) := (lx_ot lx1 (by decide)).trans ((lx_ot lx (by decide)).trans l3)
    have n4 : lgv (lst1 (lst1 L 5 (.int (nI w))) 6 (.int (nI (w / 2)))) 4 = .int (nI i) := (lx_ot lx1 (by decide)).trans ((lx_ot lx (by decide)).trans l4)
    have z0 : (0 : Int32) = nI 0 := rfl
    -- the field is put, and on
    have fin : ∀ {m : Nat} {s1 F1 : List Int64} {h1 : Hp}, F1.length + n ≤ 139999 → F.length ≤ F1.length → Clo G M ba se a n (i + 1) s1 (F1.set (a + 1 + i) (nI m).toInt64) s' F' → RY G p pc ba se bk cap gc P s1 F1 ce h1 → aWP d 52 107 (lst1 (lst1 L 5 (.int (nI w))) 6 (.int (nI (w / 2)))) [.int (nI m), .int (nI i), .int (nI a), .ref 48] h1 Q := fun {m s1 F1 h1} g1 g2 g3 g4 => by
      have k1 := g4.1.1
      generalize lst1 (lst1 L 5 (.int (nI w))) 6 (.int (nI (w / 2))) = L2 at *
      simp only [lv_args, z_v, z_lg, z_h, z_u, z_u1, z_c, z_ct, z_sk, sbne, z_rok, zi, eq_self, List.map_cons, List.map_nil, List.append_nil, List.nil_append, List.cons_append, Int32.reduceLT, Int32.reduceLE, Int32.reduceAdd, Int32.reduceSub, Int32.reduceMul, Int32.reduceToInt, Int32.reduceToNatClampNeg, Int.reduceLT, Int.reduceLE, Int.reduceNeg, true_and, and_true, or_self, or_false, false_or, false_and, and_false, true_or, or_true, if_true, if_false, ne_eq, Classical.not_not, not_true_eq_false, not_false_eq_true, true_implies, false_implies, implies_true, Nat.reduceEqDiff, Nat.reduceAdd, Nat.reduceLeDiff, Nat.reduceSub, reduceCtorEq, reduceIte, b52_107, skX k1, h0]
      refine sp_ptk h01 g4 (by omega) fun g5 => ?_
      refine ⟨rfl, Or.inl rfl, ?_⟩
      have q0 : lgv (lst1 L2 4 (.int (nI (i + 1)))) 0 = .ref 47 := (lx_ot lx2 (by decide)).trans n0
      have q1 : lgv (lst1 L2 4 (.int (nI (i + 1)))) 1 = .int (nI (M - 1)) := (lx_ot lx2 (by decide)).trans n1
      have q2 : lgv (lst1 L2 4 (.int (nI (i + 1)))) 2 = .int (nI (pFr G M)) := (lx_ot lx2 (by decide)).trans n2
      have q3 : lgv (lst1 L2 4 (.int (nI (i + 1)))) 3 = .int (nI a) := (lx_ot lx2 (by decide)).trans n3
      have := ih (i + 1) _ _ _ (lst1 L2 4 (.int (nI (i + 1)))) (by omega) (by rw [List.length_set]; omega) (by rw [List.length_set]; exact g1) g3 g5 (lx_st lx2) q0 q1 q2 q3 lgv_st
      simp only [b52_107, z_v, n4, true_and, nI_1, Option.toList, List.append_nil]
      exact this
    have ctr : ∀ {L2 : ALS} {h1 : Hp} {pc0 : Nat} {m : Int32}, LX 47 L2 → aWP d 52 107 L2 [.int m, .int (nI i), .int (nI a), .ref 48] h1 Q → (aWP d 52 pc0 L2 [.int m, .int (nI i), .int (nI a), .ref 48] h1 Q ↔ aWP d 52 107 L2 [.int m, .int (nI i), .int (nI a), .ref 48] h1 Q) → aCt d 52 pc0 L2 [.int (nI i), .int (nI a), .ref 48] h Q (some (.int m)) h1 := fun {L2 h1 pc0 m} lx q e => by
      refine ⟨rfl, Or.inr ?_, e.mpr q⟩
      have : ∀ {L : ALS}, LX 47 L → rok h h1 (L.map (fun q => q.2) ++ [.int (nI i), .int (nI a), .ref 48]) := fun {L} => by
        induction L with
        | nil =>
          intro _
          rw [List.map_nil, List.nil_append, (z_rok h h1).2.1, (z_rok h h1).2.1, (z_rok h h1).2.2.2, (z_rok h h1).1]
          exact ⟨Or.inl (by rw [k.1 48 (by decide)]; decide), trivial⟩
        | cons q L ih =>
          intro lx
          have hl : LX 47 L := fun x hx => lx x (List.mem_cons_of_mem _ hx)
          rw [List.map_cons, List.cons_append]
          rcases lx q (List.mem_cons_self) with e | ⟨x, e⟩
          · rw [e, (z_rok h h1).2.2.2]; exact ⟨Or.inl (by rw [k.1 47 (by decide)]; decide), ih hl⟩
          · rw [e, (z_rok h h1).2.1]; exact ih hl
      exact this lx
    simp only [lv_args, z_v, z_lg, z_h, z_u, z_u1, z_c, z_ct, z_sk, sbne, z_rok, zi, eq_self, List.map_cons, List.map_nil, List.append_nil, List.nil_append, List.cons_append, Int32.reduceLT, Int32.reduceLE, Int32.reduceAdd, Int32.reduceSub, Int32.reduceMul, Int32.reduceToInt, Int32.reduceToNatClampNeg, Int.reduceLT, Int.reduceLE, Int.reduceNeg, true_and, and_true, or_self, or_false, false_or, false_and, and_false, true_or, or_true, if_true, if_false, ne_eq, Classical.not_not, not_true_eq_false, not_false_eq_true, true_implies, false_implies, implies_true, Nat.reduceEqDiff, Nat.reduceAdd, Nat.reduceLeDiff, Nat.reduceSub, reduceCtorEq, reduceIte, b52_48, m5, sh1, sh2, n0, n3, n4, n5, skX k, srX k, z0]
    simp (disch := omega) only [nI_eqN]
    refine ⟨fun c => ?_, fun c => ?_⟩
    · rcases w3 with ⟨p0, _⟩ | ⟨p1, b, y, m, b1, m1, b2, e1, e2, e3, e4⟩
      · exact absurd p0 c
      · have r5' := r5
        obtain ⟨c1, c2, c3, c4, _⟩ := r5'
        have e5 : hI h 47 6 = nI b := r4.2.1.trans e1
        simp only [lv_args, z_v, z_lg, z_h, z_u, z_u1, z_c, z_ct, z_sk, sbne, z_rok, zi, eq_self, List.map_cons, List.map_nil, List.append_nil, List.nil_append, List.cons_append, Int32.reduceLT, Int32.reduceLE, Int32.reduceAdd, Int32.reduceSub, Int32.reduceMul, Int32.reduceToInt, Int32.reduceToNatClampNeg, Int.reduceLT, Int.reduceLE, Int.reduceNeg, true_and, and_true, or_self, or_false, false_or, false_and, and_false, true_or, or_true, if_true, if_false, ne_eq, Classical.not_not, not_true_eq_false, not_false_eq_true, true_implies, false_implies, implies_true, Nat.reduceEqDiff, Nat.reduceAdd, Nat.reduceLeDiff, Nat.reduceSub, reduceCtorEq, reduceIte, b52_94, n0, n6, skX k, srX k, h0, e5]
        refine sp_keptf k h01 c1 (g_lt e2) c2 c3 ?_
        rw [c4 _ _ e2, e3]
        exact ctr lx2 (fin (by omega) (Nat.le_refl _) e4 r0) Iff.rfl
    · rcases w3 with ⟨p0, x, e1, e2⟩ | ⟨p1, _⟩
      · have e5 : hI h 47 5 = nI ba := r4.1
        simp only [lv_args, z_v, z_lg, z_h, z_u, z_u1, z_c, z_ct, z_sk, sbne, z_rok, zi, eq_self, List.map_cons, List.map_nil, List.append_nil, List.nil_append, List.cons_append, Int32.reduceLT, Int32.reduceLE, Int32.reduceAdd, Int32.reduceSub, Int32.reduceMul, Int32.reduceToInt, Int32.reduceToNatClampNeg, Int.reduceLT, Int.reduceLE, Int.reduceNeg, true_and, and_true, or_self, or_false, false_or, false_and, and_false, true_or, or_true, if_true, if_false, ne_eq, Classical.not_not, not_true_eq_false, not_false_eq_true, true_implies, false_implies, implies_true, Nat.reduceEqDiff, Nat.reduceAdd, Nat.reduceLeDiff, Nat.reduceSub, reduceCtorEq, reduceIte, b52_80, n0, n6, skX k, srX k, h0, e5, nI_add]
        refine sp_shared (by omega) r0 (by omega) e1 (fun m em => ?_) (fun c10 => ?_) (fun c10 h' rh => ?_)
        · rcases e2 with ⟨m', m1, e3, e4⟩ | ⟨e3, _⟩
          · have : nI m = nI m' := (vof_inj (em.symm.trans e3)).2
            rw [this]
            exact ctr lx2 (fin (by omega) (Nat.le_refl _) e4 r0) (b52_80.2.2.2.2.2.2 _ _ _ _ _)
          · rw [em, vof_kd] at e3; exact absurd rfl e3
        · rcases e2 with ⟨m', m1, e3, e4⟩ | ⟨e3, _⟩
          · exact ⟨m', e3⟩
          · exact absurd c10 e3
        · rcases e2 with ⟨m', m1, e3, e4⟩ | ⟨e3, e4⟩
          · rw [e3, vof_kd] at c10; exact absurd rfl c10
          · exact ctr lx2 (fin (by simp; omega) (by simp) e4 rh) (b52_80.2.2.2.2.2.2 _ _ _ _ _)
      · omega
end CORF
