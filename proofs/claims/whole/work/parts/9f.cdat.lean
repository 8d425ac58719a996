/-! BUILD. The data of quotes -/
section CDT
variable {h h' h0 : Hp} {Q : Option Value → Hp → Prop} {d p c1 c2 n : Nat} {N : NS} {mt op : List Nat} {K : List KY} {z : CR}
/-- a field of the data is put -/
theorem sp_cput {dt : List DTe} {s : Nat} {v v' : Int64} {a : Int32} (cc : CC N mt K p c1 c2 h0) (H : CH N K p c1 c2 h0 op (cDt dt z) h) (hx : gd c1 c2 (cDt dt z) → a = nI s ∧ v' = v ∧ s < 1000000) (hq : ∀ h', CH N K p c1 c2 h0 op (cDt (dU dt s v) z) h' → Q none h') : aEv d 105 [.ref p, .int a, .long v'] h Q := by
  obtain ⟨hp, _, _, _, _, ⟨y1, y2, _⟩, _⟩ := cc
  obtain ⟨⟨⟨cb, kx⟩, ⟨n1, n3⟩, da, ft, sc, ⟨pb1, ⟨sz, z1, z2⟩, pb2⟩, gx⟩, fm⟩ := H
  have s0 := cb.1
  have gU : gd c1 c2 (cDt (dU dt s v) z) → gd c1 c2 (cDt dt z) := fun G => ⟨G.1, G.2.1, by have := G.2.2; have e : (rDt (cDt (dU dt s v) z)).length = dt.length := dU_len; rw [e] at this; exact this⟩
  rcases hp with rfl | rfl
  · have n3 : hN h 22 = c2 := n3
    have z1 : hI h 19 4 = nI sz := z1
    have z2 : sz ≤ hN h 22 := z2
    have same : (gd c1 c2 (cDt dt z) → ¬ s < dt.length) → Q none h := fun c => by
      refine hq _ ⟨⟨⟨cb, kx⟩, ⟨n1, n3⟩, da, ft, sc, ⟨pb1, ⟨sz, z1, z2⟩, pb2⟩, fun G => ?_⟩, fm⟩
      have e : dU dt s v = dt := List.set_eq_of_length_le (Nat.le_of_not_lt (c (gU G)))
      rw [e]
      exact gx (gU G)
    have szl : gd c1 c2 (cDt dt z) → sz = dt.length := fun G => nI_inj (by omega) (by have : dt.length ≤ c2 := G.2.2; omega) (z1.symm.trans (gx G).2.2.2.2.2.1)
    rw [e105_19 _ _ s0, z1]
    refine ⟨fun c => same (fun G => ?_), fun c => ⟨fun c3 => same (fun G => ?_), fun c3 => ?_⟩⟩
    · obtain ⟨x1, _, x3⟩ := hx G
      rw [x1] at c
      exact absurd c (nI_nl (by omega))
    · obtain ⟨x1, _, x3⟩ := hx G
      rw [x1, nI_leN (by omega) (by omega), szl G] at c3
      omega
    · have b1 := i32_0 c
      have c3' : a < nI sz := by
        have h1 : ¬ (nI sz).toInt ≤ a.toInt := fun w => c3 (Int32.le_iff_toInt_le.mpr w)
        refine Int32.lt_iff_toInt_lt.mpr ?_
        omega
      have b2 := i32_lt (by omega) c3'
      refine ⟨⟨b1, by omega⟩, hq _ ⟨⟨⟨cb_b cb, kx_B kx (by unfold XP; omega)⟩, ⟨n1, n3⟩, da, ft, sc, ⟨pb1, ⟨sz, z1, z2⟩, pb2⟩, fun G => ?_⟩, fm⟩⟩
      have G0 := gU G
      obtain ⟨x1, x2, x3⟩ := hx G0
      obtain ⟨g1, g2, g3, g4, g5, g6, g7, g8⟩ := gx G0
      have hcl : a.toNatClampNeg = s := by rw [x1, nI_cl (by omega)]
      refine ⟨g1, g2, g3, g4, g5, ?_, fun i m w hi => ?_, g8⟩
      · show hI h 19 4 = nI (dU dt s v).length
        rw [dU_len]; exact g6
      · have hi : (dt.set s ((dt.getD s (0, none)).1, some v))[i]? = some (m, some w) := hi
        show vp_updL (hB h 22) a.toNatClampNeg v' i = w
        rw [hcl]
        unfold vp_updL
        by_cases c : i = s
        · subst c
          rw [if_pos rfl]
          have hl := g_lt hi
          rw [List.length_set] at hl
          rw [List.getElem?_set_self hl] at hi
          injection hi with hi
          injection hi with _ hi
          injection hi with hi
          rw [x2, hi]
        · rw [List.getElem?_set_ne (Ne.symm c)] at hi
          rw [if_neg c]
          exact g7 i m w hi
  · have n3 : hN h 32 = c2 := n3
    have z1 : hI h 29 4 = nI sz := z1
    have z2 : sz ≤ hN h 32 := z2
    have same : (gd c1 c2 (cDt dt z) → ¬ s < dt.length) → Q none h := fun c => by
      refine hq _ ⟨⟨⟨cb, kx⟩, ⟨n1, n3⟩, da, ft, sc, ⟨pb1, ⟨sz, z1, z2⟩, pb2⟩, fun G => ?_⟩, fm⟩
      have e : dU dt s v = dt := List.set_eq_of_length_le (Nat.le_of_not_lt (c (gU G)))
      rw [e]
      exact gx (gU G)
    have szl : gd c1 c2 (cDt dt z) → sz = dt.length := fun G => nI_inj (by omega) (by have : dt.length ≤ c2 := G.2.2; omega) (z1.symm.trans (gx G).2.2.2.2.2.1)
    rw [e105_29 _ _ s0, z1]
    refine ⟨fun c => same (fun G => ?_), fun c => ⟨fun c3 => same (fun G => ?_), fun c3 => ?_⟩⟩
    · obtain ⟨x1, _, x3⟩ := hx G
      rw [x1] at c
      exact absurd c (nI_nl (by omega))
    · obtain ⟨x1, _, x3⟩ := hx G
      rw [x1, nI_leN (by omega) (by omega), szl G] at c3
      omega
    · have b1 := i32_0 c
      have c3' : a < nI sz := by
        have h1 : ¬ (nI sz).toInt ≤ a.toInt := fun w => c3 (Int32.le_iff_toInt_le.mpr w)
        refine Int32.lt_iff_toInt_lt.mpr ?_
        omega
      have b2 := i32_lt (by omega) c3'
      refine ⟨⟨b1, by omega⟩, hq _ ⟨⟨⟨cb_b cb, kx_B kx (by unfold XP; omega)⟩, ⟨n1, n3⟩, da, ft, sc, ⟨pb1, ⟨sz, z1, z2⟩, pb2⟩, fun G => ?_⟩, fm⟩⟩
      have G0 := gU G
      obtain ⟨x1, x2, x3⟩ := hx G0
      obtain ⟨g1, g2, g3, g4, g5, g6, g7, g8⟩ := gx G0
      have hcl : a.toNatClampNeg = s := by rw [x1, nI_cl (by omega)]
      refine ⟨g1, g2, g3, g4, g5, ?_, fun i m w hi => ?_, g8⟩
      · show hI h 29 4 = nI (dU dt s v).length
        rw [dU_len]; exact g6
      · have hi : (dt.set s ((dt.getD s (0, none)).1, some v))[i]? = some (m, some w) := hi
        show vp_updL (hB h 32) a.toNatClampNeg v' i = w
        rw [hcl]
        unfold vp_updL
        by_cases c : i = s
        · subst c
          rw [if_pos rfl]
          have hl := g_lt hi
          rw [List.length_set] at hl
          rw [List.getElem?_set_self hl] at hi
          injection hi with hi
          injection hi with _ hi
          injection hi with hi
          rw [x2, hi]
        · rw [List.getElem?_set_ne (Ne.symm c)] at hi
          rw [if_neg c]
          exact g7 i m w hi
/-- room for pairs among the data -/
theorem sp_reserve {dt : List DTe} {k : Nat} (cc : CC N mt K p c1 c2 h0) (H : CH N K p c1 c2 h0 op (cDt dt z) h) (hk : 1 ≤ k ∧ k ≤ 10000) (hd : 0 < d) (hq : ∀ st h', CH N K p c1 c2 h0 op (cDt (dt ++ (n, none) :: List.replicate (2 * k - 1) (0, none)) z) h' → st ≤ 30000 → (gd c1 c2 (cDt dt z) → st = dt.length) → Q (some (.int (nI st))) h') : aEv d 106 [.ref p, .int (nI k)] h Q := by
  obtain ⟨hp, _, _, _, _, ⟨y1, y2, _⟩, _⟩ := cc
  obtain ⟨⟨⟨cb, kx⟩, ⟨n1, n3⟩, da, ft, sc, ⟨pb1, ⟨sz, z1, z2⟩, pb2⟩, gx⟩, fm⟩ := H
  have s0 := cb.1
  have len : (dt ++ (n, none) :: List.replicate (2 * k - 1) ((0, none) : DTe)).length = dt.length + 2 * k := by
    rw [List.length_append, List.length_cons, List.length_replicate]; omega
  have gU : gd c1 c2 (cDt (dt ++ (n, none) :: List.replicate (2 * k - 1) (0, none)) z) → gd c1 c2 (cDt dt z) ∧ dt.length + 2 * k ≤ c2 := fun G => by
    have h1 : (dt ++ (n, none) :: List.replicate (2 * k - 1) ((0, none) : DTe)).length ≤ c2 := G.2.2
    rw [len] at h1
    exact ⟨⟨G.1, G.2.1, by show dt.length ≤ c2; omega⟩, h1⟩
  have e2 : (2 : Int32) * nI k = nI (2 * k) := (Int32.ofNat_mul 2 k).symm
  rcases hp with rfl | rfl
  · have n3 : hN h 22 = c2 := n3
    have z1 : hI h 19 4 = nI sz := z1
    have z2 : sz ≤ hN h 22 := z2
    have szl : gd c1 c2 (cDt dt z) → sz = dt.length := fun G => nI_inj (by omega) (by have : dt.length ≤ c2 := G.2.2; omega) (z1.symm.trans (gx G).2.2.2.2.2.1)
    rw [e106_19 _ _ s0, z1, n3, e2, nI_add, nI_ltN (by omega) (by omega)]
    refine ⟨hd, fun c => hq sz _ ⟨⟨⟨cb_i cb, kx_I kx (by unfold XP; omega)⟩, ⟨n1, n3⟩, da, ft, sc, ⟨pb1, ⟨c2, rfl, by show c2 ≤ hN h 22; omega⟩, pb2⟩, fun G => ?_⟩, fm⟩ (by omega) szl, fun c => hq sz _ ⟨⟨⟨cb_i cb, kx_I kx (by unfold XP; omega)⟩, ⟨n1, n3⟩, da, ft, sc, ⟨pb1, ⟨sz + 2 * k, rfl, by show sz + 2 * k ≤ hN h 22; omega⟩, pb2⟩, fun G => ?_⟩, fm⟩ (by omega) szl⟩
    · obtain ⟨G0, G1⟩ := gU G
      have := szl G0
      omega
    · obtain ⟨G0, G1⟩ := gU G
      obtain ⟨g1, g2, g3, g4, g5, g6, g7, g8⟩ := gx G0
      refine ⟨g1, g2, g3, g4, g5, ?_, fun i m w hi => ?_, g8⟩
      · show nI (sz + 2 * k) = nI (dt ++ (n, none) :: List.replicate (2 * k - 1) ((0, none) : DTe)).length
        rw [len, szl G0]
      · have hi : (dt ++ (n, none) :: List.replicate (2 * k - 1) ((0, none) : DTe))[i]? = some (m, some w) := hi
        by_cases c : i < dt.length
        · rw [List.getElem?_append_left c] at hi
          exact g7 i m w hi
        · rw [List.getElem?_append_right (by omega)] at hi
          have := List.mem_of_getElem? hi
          rcases List.mem_cons.mp this with e | e
          · injection e with _ e
            cases e
          · have := (List.mem_replicate.mp e).2
            injection this with _ e
            cases e
  · have n3 : hN h 32 = c2 := n3
    have z1 : hI h 29 4 = nI sz := z1
    have z2 : sz ≤ hN h 32 := z2
    have szl : gd c1 c2 (cDt dt z) → sz = dt.length := fun G => nI_inj (by omega) (by have : dt.length ≤ c2 := G.2.2; omega) (z1.symm.trans (gx G).2.2.2.2.2.1)
    rw [e106_29 _ _ s0, z1, n3, e2, nI_add, nI_ltN (by omega) (by omega)]
    refine ⟨hd, fun c => hq sz _ ⟨⟨⟨cb_i cb, kx_I kx (by unfold XP; omega)⟩, ⟨n1, n3⟩, da, ft, sc, ⟨pb1, ⟨c2, rfl, by show c2 ≤ hN h 32; omega⟩, pb2⟩, fun G => ?_⟩, fm⟩ (by omega) szl, fun c => hq sz _ ⟨⟨⟨cb_i cb, kx_I kx (by unfold XP; omega)⟩, ⟨n1, n3⟩, da, ft, sc, ⟨pb1, ⟨sz + 2 * k, rfl, by show sz + 2 * k ≤ hN h 32; omega⟩, pb2⟩, fun G => ?_⟩, fm⟩ (by omega) szl⟩
    · obtain ⟨G0, G1⟩ := gU G
      have := szl G0
      omega
    · obtain ⟨G0, G1⟩ := gU G
      obtain ⟨g1, g2, g3, g4, g5, g6, g7, g8⟩ := gx G0
      refine ⟨g1, g2, g3, g4, g5, ?_, fun i m w hi => ?_, g8⟩
      · show nI (sz + 2 * k) = nI (dt ++ (n, none) :: List.replicate (2 * k - 1) ((0, none) : DTe)).length
        rw [len, szl G0]
      · have hi : (dt ++ (n, none) :: List.replicate (2 * k - 1) ((0, none) : DTe))[i]? = some (m, some w) := hi
        by_cases c : i < dt.length
        · rw [List.getElem?_append_left c] at hi
          exact g7 i m w hi
        · rw [List.getElem?_append_right (by omega)] at hi
          have := List.mem_of_getElem? hi
          rcases List.mem_cons.mp this with e | e
          · injection e with _ e
            cases e
          · have := (List.mem_replicate.mp e).2
            injection this with _ e
            cases e
theorem nt_kx (cc : CC N mt K p c1 c2 h0) (H : CH N K p c1 c2 h0 op z h) : NT K mt h := by
  have k := H.1.1.2
  have hp := cc.1
  have nt := cc.2.2.2.1.1
  have f : ∀ a, a < 19 → a ≠ 2 → ¬ XP p a := fun a h1 h2 c => by unfold XP at c; omega
  unfold NT at nt ⊢
  rw [(k.2 4 (f 4 (by decide) (by decide))).1, (k.2 5 (f 5 (by decide) (by decide))).2.2.2.1, (k.2 6 (f 6 (by decide) (by decide))).2.2.2.1, (k.2 7 (f 7 (by decide) (by decide))).2.2.1, (k.2 8 (f 8 (by decide) (by decide))).2.2.1, (k.2 9 (f 9 (by decide) (by decide))).2.2.1, (k.2 9 (f 9 (by decide) (by decide))).2.2.2.2]
  exact nt
/-- the number of a name that was met -/
theorem sp_numberOf {j : Nat} (cc : CC N mt K p c1 c2 h0) (H : CH N K p c1 c2 h0 op z h) (hj : j ∈ mt) (hq : Q (some (.int (nI (mt.idxOf j)))) h) : aEv d 83 [.ref 4, .int (nI j)] h Q := by
  have nt := nt_kx cc H
  have hp := cc.1
  have e8 : hN h 8 = hN h0 8 := (H.1.1.2.2 8 (fun c => by unfold XP at c; omega)).2.2.2.2
  have m8 := cc.2.2.2.1.2.1
  obtain ⟨⟨n1, n2⟩, n3, n4, n5, n6, ⟨n7, n8, n9⟩, n10⟩ := nt
  have hjK := n9 j hj
  obtain ⟨i, hi, ei⟩ | ⟨hn, _⟩ := n10 j hjK
  · have ix : mt.idxOf j = i := idx_at hi (fun i' hi' c => by
      have := (List.getElem?_inj (g_lt c) n8).mp (c.trans hi.symm)
      omega)
    have x1 : (K.length ≤ j) = False := eq_false (by omega)
    have x2 : (j < hN h 8) = True := eq_true (by omega)
    rw [e83_4 _ _ H.1.1.1.1, n1]
    simp (disch := omega) only [nI_lt0, nI_leN, nI_ti, nI_cl, le0N, ltNN, x1, x2, false_imp_iff, not_false_eq_true, true_imp_iff, true_and, and_true, ei]
    rw [ix] at hq
    exact hq
  · exact absurd hj hn
end CDT
section CDQ
variable {h h' h0 : Hp} {Q : Option Value → Hp → Prop} {d p c1 c2 n : Nat} {N : NS} {mt op : List Nat} {K : List KY} {z : CR}
theorem cDt_cDt {a b : List DTe} : cDt b (cDt a z) = cDt b z := rfl
/-- a name's node -/
theorem nok_name (nk : Nok N mt) (h1 : 1 ≤ n) (h2 : n < N.1) (h5 : nK N n = 5) : ∃ j, j ∈ mt ∧ nC N n = nI j ∧ nCn N n = j ∧ j < 100000 := by
  rcases nk.1 n h1 h2 with e | ⟨e, _⟩ | ⟨_, j, hj, e⟩ | e
  · rw [h5] at e; exact absurd e (by decide)
  · rw [h5] at e; exact absurd e (by decide)
  · have := nk.2.1 j hj
    exact ⟨j, hj, e, by unfold nCn; rw [e, tn_nI (by omega)], this⟩
  · rw [h5] at e; exact absurd e (by decide)
theorem trc_len {g n b : Nat} (h : Tr (g + 1) N n b) (h6 : nK N n = 6) (hb : b < 2000000000) : nC N n = nI (pts N n).length := by
  obtain ⟨t1, _, t3⟩ := tr_pts h h6 hb
  rcases h with ⟨c', _⟩ | ⟨_, ps, u1, u2, u3, u4⟩
  · exact absurd h6 c'
  · have hl := frs_len ps _ _ u4
    have : nCn N n = ps.length := by unfold nCn; rw [u1, tn_nI (by omega)]
    rw [u1, ← t1, this]
theorem sp_datum (cc : CC N mt K p c1 c2 h0) : ∀ (f g n b lv : Nat) (z : CR) (h : Hp) (d : Nat) (Q : Option Value → Hp → Prop), g ≤ f → Tr g N n b → b ≤ N.1 → 1 ≤ n → lv + g ≤ 33 → CH N K p c1 c2 h0 op z h → 2 * g + 5 < d → (∀ v h', CH N K p c1 c2 h0 op (cDt (cDm N mt f n (rDt z)).2 z) h' → (gd c1 c2 (cDt (cDm N mt f n (rDt z)).2 z) → v = (cDm N mt f n (rDt z)).1) → Q (some (.long v)) h') → aEv d 9 [.ref 39, .int (nI n), .int (nI lv)] h Q
  | 0, g, n, b, lv, z, h, d, Q, hg, ht, _, _, _, _, _, _ => by
    have : g = 0 := by omega
    subst this
    exact ht.elim
  | f + 1, 0, n, b, lv, z, h, d, Q, hg, ht, _, _, _, _, _, _ => ht.elim
  | f + 1, g + 1, n, b, lv, z, h, d, Q, hg, ht, hb, hn1, hlv, H, hd, hq => by
    have h00 : 0 < d := by omega
    have nk := cc.2.2.2.2.1
    have hN1 := nk.2.2
    have hnb : n < b := by
      rcases ht with ⟨_, e⟩ | ⟨_, _, _, _, e, _⟩
      · omega
      · exact e
    have hn : n < N.1 := by omega
    have s := H.1.1.1.1
    have r := cc_rd cc H.1
    have hR3 := cc_R cc H.1
    have z5 : (5 : Int32) = nI 5 := rfl
    have z33 : (32 : Int32) = nI 32 := rfl
    have e0 : cDt (rDt z) z = z := rfl
    unfold aEv
    simp only [lv_args, z_v, z_lg, z_h, z_u, z_u1, z_c, z_ct, z_sk, sbne, lst1_d, ldel, lst2_d, ldel2, z_sw, z_rok, zi, eq_self, List.map_cons, List.map_nil, List.append_nil, List.nil_append, List.cons_append, Int32.reduceLT, Int32.reduceLE, Int32.reduceAdd, Int32.reduceSub, Int32.reduceMul, Int32.reduceToInt, Int32.reduceToNatClampNeg, Int.reduceLT, Int.reduceLE, Int.reduceNeg, true_and, and_true, or_self, or_false, false_or, false_and, and_false, true_or, or_true, if_true, if_false, ne_eq, Classical.not_not, not_true_eq_false, not_false_eq_true, true_implies, false_implies, implies_true, Nat.reduceEqDiff, Nat.reduceAdd, Nat.reduceLeDiff, Nat.reduceSub, reduceCtorEq, reduceIte, b9_0, skX s, srX s, h00, rd_k s r hn, rd_c s r hn]
    by_cases c5 : nK N n = 5
    · obtain ⟨j, hj, ej, ej2, _⟩ := nok_name nk hn1 hn c5
      have ev : cDm N mt (f + 1) n (rDt z) = (vof 5 (nI (mt.idxOf (nCn N n))), rDt z) := if_pos c5
      rw [ev] at hq
      simp only [c5, not_true_eq_false, false_imp_iff, true_imp_iff, true_and]
      simp only [lv_args, z_v, z_lg, z_h, z_u, z_u1, z_c, z_ct, z_sk, sbne, lst1_d, ldel, lst2_d, ldel2, z_sw, z_rok, zi, eq_self, List.map_cons, List.map_nil, List.append_nil, List.nil_append, List.cons_append, Int32.reduceLT, Int32.reduceLE, Int32.reduceAdd, Int32.reduceSub, Int32.reduceMul, Int32.reduceToInt, Int32.reduceToNatClampNeg, Int.reduceLT, Int.reduceLE, Int.reduceNeg, true_and, and_true, or_self, or_false, false_or, false_and, and_false, true_or, or_true, if_true, if_false, ne_eq, Classical.not_not, not_true_eq_false, not_false_eq_true, true_implies, false_implies, implies_true, Nat.reduceEqDiff, Nat.reduceAdd, Nat.reduceLeDiff, Nat.reduceSub, reduceCtorEq, reduceIte, b9_24, skX s, srX s, h00, ej]
      refine sp_numberOf cc H hj ?_
      simp only [lv_args, z_v, z_lg, z_h, z_u, z_u1, z_c, z_ct, z_sk, sbne, lst1_d, ldel, lst2_d, ldel2, z_sw, z_rok, zi, eq_self, List.map_cons, List.map_nil, List.append_nil, List.nil_append, List.cons_append, Int32.reduceLT, Int32.reduceLE, Int32.reduceAdd, Int32.reduceSub, Int32.reduceMul, Int32.reduceToInt, Int32.reduceToNatClampNeg, Int.reduceLT, Int.reduceLE, Int.reduceNeg, true_and, and_true, or_self, or_false, false_or, false_and, and_false, true_or, or_true, if_true, if_false, ne_eq, Classical.not_not, not_true_eq_false, not_false_eq_true, true_implies, false_implies, implies_true, Nat.reduceEqDiff, Nat.reduceAdd, Nat.reduceLeDiff, Nat.reduceSub, reduceCtorEq, reduceIte, b9_24, skX s, h00, e157v, Nat.reduceLT]
      exact hq _ h H (fun _ => by rw [ej2])
    · have c5' : ¬ nK N n = 5 := c5
      simp only [c5', not_false_eq_true, false_imp_iff, true_imp_iff, and_true]
      by_cases c6 : nK N n = 6
      · have e3 := trc_len ht c6 (by omega)
        obtain ⟨tp1, tp2, tp3⟩ := tr_pts ht c6 (by omega)
        have hll := frs_len _ _ _ tp3
        have hkp : hK h p = 7 := by rcases cc.1 with rfl | rfl <;> exact s.1 _ (by decide)
        simp only [lv_args, z_v, z_lg, z_h, z_u, z_u1, z_c, z_ct, z_sk, sbne, lst1_d, ldel, lst2_d, ldel2, z_sw, z_rok, zi, eq_self, List.map_cons, List.map_nil, List.append_nil, List.nil_append, List.cons_append, Int32.reduceLT, Int32.reduceLE, Int32.reduceAdd, Int32.reduceSub, Int32.reduceMul, Int32.reduceToInt, Int32.reduceToNatClampNeg, Int.reduceLT, Int.reduceLE, Int.reduceNeg, true_and, and_true, or_self, or_false, false_or, false_and, and_false, true_or, or_true, if_true, if_false, ne_eq, Classical.not_not, not_true_eq_false, not_false_eq_true, true_implies, false_implies, implies_true, Nat.reduceEqDiff, Nat.reduceAdd, Nat.reduceLeDiff, Nat.reduceSub, reduceCtorEq, reduceIte, b9_41, c6]
        simp only [lv_args, z_v, z_lg, z_h, z_u, z_u1, z_c, z_ct, z_sk, sbne, lst1_d, ldel, lst2_d, ldel2, z_sw, z_rok, zi, eq_self, List.map_cons, List.map_nil, List.append_nil, List.nil_append, List.cons_append, Int32.reduceLT, Int32.reduceLE, Int32.reduceAdd, Int32.reduceSub, Int32.reduceMul, Int32.reduceToInt, Int32.reduceToNatClampNeg, Int.reduceLT, Int.reduceLE, Int.reduceNeg, true_and, and_true, or_self, or_false, false_or, false_and, and_false, true_or, or_true, if_true, if_false, ne_eq, Classical.not_not, not_true_eq_false, not_false_eq_true, true_implies, false_implies, implies_true, Nat.reduceEqDiff, Nat.reduceAdd, Nat.reduceLeDiff, Nat.reduceSub, reduceCtorEq, reduceIte, b9_54, e3]
        have z0 : (0 : Int32) = nI 0 := rfl
        rw [z0]
        simp (disch := omega) only [nI_eqN]
        refine ⟨fun cl => ?_, fun cl => ?_⟩
        · have hp0 : pts N n = [] := List.eq_nil_of_length_eq_zero cl
          have ev : cDm N mt (f + 1) n (rDt z) = (vof 4 0, rDt z) := (if_neg c5).trans ((if_neg (fun c => c c6)).trans (if_pos hp0))
          rw [ev] at hq
          simp only [lv_args, z_v, z_lg, z_h, z_u, z_u1, z_c, z_ct, z_sk, sbne, lst1_d, ldel, lst2_d, ldel2, z_sw, z_rok, zi, eq_self, List.map_cons, List.map_nil, List.append_nil, List.nil_append, List.cons_append, Int32.reduceLT, Int32.reduceLE, Int32.reduceAdd, Int32.reduceSub, Int32.reduceMul, Int32.reduceToInt, Int32.reduceToNatClampNeg, Int.reduceLT, Int.reduceLE, Int.reduceNeg, true_and, and_true, or_self, or_false, false_or, false_and, and_false, true_or, or_true, if_true, if_false, ne_eq, Classical.not_not, not_true_eq_false, not_false_eq_true, true_implies, false_implies, implies_true, Nat.reduceEqDiff, Nat.reduceAdd, Nat.reduceLeDiff, Nat.reduceSub, reduceCtorEq, reduceIte, b9_65, skX s, h00, e157v, Nat.reduceLT]
          exact hq _ h H (fun _ => rfl)
        · have hp0 : ¬ pts N n = [] := fun e => cl (by rw [e]; rfl)
          have ev : cDm N mt (f + 1) n (rDt z) = (vof 6 (nI (rDt z).length), cDmL (cDm N mt f) (pts N n) (rDt z).length (rDt z ++ (n, none) :: List.replicate (2 * (pts N n).length - 1) (0, none))) := (if_neg c5).trans ((if_neg (fun c => c c6)).trans (if_neg hp0))
          rw [ev] at hq
          have z32 : (32 : Int32) = nI 32 := rfl
          simp only [lv_args, z_v, z_lg, z_h, z_u, z_u1, z_c, z_ct, z_sk, sbne, lst1_d, ldel, lst2_d, ldel2, z_sw, z_rok, zi, eq_self, List.map_cons, List.map_nil, List.append_nil, List.nil_append, List.cons_append, Int32.reduceLT, Int32.reduceLE, Int32.reduceAdd, Int32.reduceSub, Int32.reduceMul, Int32.reduceToInt, Int32.reduceToNatClampNeg, Int.reduceLT, Int.reduceLE, Int.reduceNeg, true_and, and_true, or_self, or_false, false_or, false_and, and_false, true_or, or_true, if_true, if_false, ne_eq, Classical.not_not, not_true_eq_false, not_false_eq_true, true_implies, false_implies, implies_true, Nat.reduceEqDiff, Nat.reduceAdd, Nat.reduceLeDiff, Nat.reduceSub, reduceCtorEq, reduceIte, b9_59, z32]
          simp (disch := omega) only [nI_leN]
          refine ⟨fun _ => ?_, fun c => absurd (by omega) c⟩
          simp only [lv_args, z_v, z_lg, z_h, z_u, z_u1, z_c, z_ct, z_sk, sbne, lst1_d, ldel, lst2_d, ldel2, z_sw, z_rok, zi, eq_self, List.map_cons, List.map_nil, List.append_nil, List.nil_append, List.cons_append, Int32.reduceLT, Int32.reduceLE, Int32.reduceAdd, Int32.reduceSub, Int32.reduceMul, Int32.reduceToInt, Int32.reduceToNatClampNeg, Int.reduceLT, Int.reduceLE, Int.reduceNeg, true_and, and_true, or_self, or_false, false_or, false_and, and_false, true_or, or_true, if_true, if_false, ne_eq, Classical.not_not, not_true_eq_false, not_false_eq_true, true_implies, false_implies, implies_true, Nat.reduceEqDiff, Nat.reduceAdd, Nat.reduceLeDiff, Nat.reduceSub, reduceCtorEq, reduceIte, b9_71, skX s, srX s, h00, hR3, hkp]
          refine sp_reserve (dt := rDt z) (k := (pts N n).length) (n := n) cc H ⟨by omega, by omega⟩ (by omega) (fun st h1 H1 hst0 hst => ?_)
          have s1 := H1.1.1.1.1
          have r1 := cc_rd cc H1.1
          have loop : ∀ (l : List Nat) (i a : Nat) (dt : List DTe) (h2 : Hp) (T : ALS), (T = [] ∨ ∃ x, T = [(8, .int x)]) → Frs (Tr g N) (nX N) l a b → 1 ≤ a → i + l.length = (pts N n).length → (gd c1 c2 (cDt dt z) → st = (rDt z).length) → CH N K p c1 c2 h0 op (cDt dt z) h2 → (∀ h3, CH N K p c1 c2 h0 op (cDt (cDmL (cDm N mt f) l ((rDt z).length + 2 * i) dt) z) h3 → (gd c1 c2 (cDt (cDmL (cDm N mt f) l ((rDt z).length + 2 * i) dt) z) → st = (rDt z).length) → Q (some (.long (vof 6 (nI st)))) h3) → aWP d 9 95 ((7, .int (nI i)) :: (6, .int (oI l.head?)) :: (T ++ [(5, .int (nI st)), (4, .int (nI (pts N n).length)), (3, .int 6), (0, .ref 39), (1, .int (nI n)), (2, .int (nI lv))])) [] h2 Q := by
            intro l
            induction l with
            | nil =>
              intro i a dt h2 T hT fr ha hi hs2 H2 q
              have hi : i = (pts N n).length := hi
              have fin := q h2 H2 hs2
              have s2 := H2.1.1.1.1
              rcases hT with rfl | ⟨x, rfl⟩
              · simp only [List.nil_append, List.cons_append]
                simp only [lv_args, z_v, z_lg, z_h, z_u, z_u1, z_c, z_ct, z_sk, sbne, lst1_d, ldel, lst2_d, ldel2, z_sw, z_rok, zi, eq_self, List.map_cons, List.map_nil, List.append_nil, List.nil_append, List.cons_append, Int32.reduceLT, Int32.reduceLE, Int32.reduceAdd, Int32.reduceSub, Int32.reduceMul, Int32.reduceToInt, Int32.reduceToNatClampNeg, Int.reduceLT, Int.reduceLE, Int.reduceNeg, true_and, and_true, or_self, or_false, false_or, false_and, and_false, true_or, or_true, if_true, if_false, ne_eq, Classical.not_not, not_true_eq_false, not_false_eq_true, true_implies, false_implies, implies_true, Nat.reduceEqDiff, Nat.reduceAdd, Nat.reduceLeDiff, Nat.reduceSub, reduceCtorEq, reduceIte, b9_95]
                simp (disch := omega) only [nI_leN]
                refine ⟨fun _ => ?_, fun c => absurd (by omega) c⟩
                simp only [lv_args, z_v, z_lg, z_h, z_u, z_u1, z_c, z_ct, z_sk, sbne, lst1_d, ldel, lst2_d, ldel2, z_sw, z_rok, zi, eq_self, List.map_cons, List.map_nil, List.append_nil, List.nil_append, List.cons_append, Int32.reduceLT, Int32.reduceLE, Int32.reduceAdd, Int32.reduceSub, Int32.reduceMul, Int32.reduceToInt, Int32.reduceToNatClampNeg, Int.reduceLT, Int.reduceLE, Int.reduceNeg, true_and, and_true, or_self, or_false, false_or, false_and, and_false, true_or, or_true, if_true, if_false, ne_eq, Classical.not_not, not_true_eq_false, not_false_eq_true, true_implies, false_implies, implies_true, Nat.reduceEqDiff, Nat.reduceAdd, Nat.reduceLeDiff, Nat.reduceSub, reduceCtorEq, reduceIte, b9_183, skX s2, h00, e157v, Nat.reduceLT]
                exact fin
              · simp only [List.nil_append, List.cons_append]
                simp only [lv_args, z_v, z_lg, z_h, z_u, z_u1, z_c, z_ct, z_sk, sbne, lst1_d, ldel, lst2_d, ldel2, z_sw, z_rok, zi, eq_self, List.map_cons, List.map_nil, List.append_nil, List.nil_append, List.cons_append, Int32.reduceLT, Int32.reduceLE, Int32.reduceAdd, Int32.reduceSub, Int32.reduceMul, Int32.reduceToInt, Int32.reduceToNatClampNeg, Int.reduceLT, Int.reduceLE, Int.reduceNeg, true_and, and_true, or_self, or_false, false_or, false_and, and_false, true_or, or_true, if_true, if_false, ne_eq, Classical.not_not, not_true_eq_false, not_false_eq_true, true_implies, false_implies, implies_true, Nat.reduceEqDiff, Nat.reduceAdd, Nat.reduceLeDiff, Nat.reduceSub, reduceCtorEq, reduceIte, b9_95]
                simp (disch := omega) only [nI_leN]
                refine ⟨fun _ => ?_, fun c => absurd (by omega) c⟩
                simp only [lv_args, z_v, z_lg, z_h, z_u, z_u1, z_c, z_ct, z_sk, sbne, lst1_d, ldel, lst2_d, ldel2, z_sw, z_rok, zi, eq_self, List.map_cons, List.map_nil, List.append_nil, List.nil_append, List.cons_append, Int32.reduceLT, Int32.reduceLE, Int32.reduceAdd, Int32.reduceSub, Int32.reduceMul, Int32.reduceToInt, Int32.reduceToNatClampNeg, Int.reduceLT, Int.reduceLE, Int.reduceNeg, true_and, and_true, or_self, or_false, false_or, false_and, and_false, true_or, or_true, if_true, if_false, ne_eq, Classical.not_not, not_true_eq_false, not_false_eq_true, true_implies, false_implies, implies_true, Nat.reduceEqDiff, Nat.reduceAdd, Nat.reduceLeDiff, Nat.reduceSub, reduceCtorEq, reduceIte, b9_183, skX s2, h00, e157v, Nat.reduceLT]
                exact fin
            | cons c l ih =>
              intro i a dt h2 T hT fr ha hi hs2 H2 q
              simp only [List.length_cons] at hi
              obtain ⟨rfl, m, f1, f2, f3, f4, f5⟩ := fr
              have s2 := H2.1.1.1.1
              have R2 := cc_R cc H2.1
              have hkp2 : hK h2 p = 7 := by rcases cc.1 with rfl | rfl <;> exact s2.1 _ (by decide)
              have ho : oI (List.head? (c :: l)) = nI c := rfl
              have e2i : nI st + 2 * nI i = nI (st + 2 * i) := by
                have e : (2 : Int32) * nI i = nI (2 * i) := (Int32.ofNat_mul 2 i).symm
                rw [e, nI_add]
              have dme := dm_e (N := N) (mt := mt) f g c m dt f1 (by omega) (by omega)
              have gm : gd c1 c2 (cDt (cDm N mt f c dt).2 z) → gd c1 c2 (cDt dt z) := fun G => ⟨G.1, G.2.1, Nat.le_trans dme.1.length_le G.2.2⟩
              have step : aWP d 9 102 ((7, .int (nI i)) :: (6, .int (nI c)) :: (T ++ [(5, .int (nI st)), (4, .int (nI (pts N n).length)), (3, .int 6), (0, .ref 39), (1, .int (nI n)), (2, .int (nI lv))])) [] h2 Q := by
                have dat : ∀ {Q' : Option Value → Hp → Prop}, (∀ v h', CH N K p c1 c2 h0 op (cDt (cDm N mt f c dt).2 z) h' → (gd c1 c2 (cDt (cDm N mt f c dt).2 z) → v = (cDm N mt f c dt).1) → Q' (some (.long v)) h') → aEv (d - 1) 9 [.ref 39, .int (nI c), .int (nI (lv + 1))] h2 Q' := fun hq' => sp_datum cc f g c m (lv + 1) (cDt dt z) h2 _ _ (by omega) f1 (by omega) ha (by omega) H2 (by omega) hq'
                have es1 : (rDt z).length + 2 * (i + 1) = (rDt z).length + 2 * i + 2 := by omega
                have e2 : nI (st + 2 * i) + 2 = nI (st + 2 * i + 2) := by
                  have : (2 : Int32) = nI 2 := rfl
                  rw [this, nI_add]
                have hs4 : gd c1 c2 (cDt (dU (cDm N mt f c dt).2 ((rDt z).length + 2 * i) (cDm N mt f c dt).1) z) → st = (rDt z).length := fun G => hs2 (gm ⟨G.1, G.2.1, by
                  have := G.2.2
                  have e : (rDt (cDt (dU (cDm N mt f c dt).2 ((rDt z).length + 2 * i) (cDm N mt f c dt).1) z)).length = ((cDm N mt f c dt).2).length := dU_len
                  rw [e] at this
                  exact this⟩)
                have hb4 : gd c1 c2 (cDt (dU (cDm N mt f c dt).2 ((rDt z).length + 2 * i) (cDm N mt f c dt).1) z) → (rDt z).length + 2 * i + 1 < 1000000 := fun G => by
                  have := hs4 G
                  omega
                rcases hT with rfl | ⟨x, rfl⟩
                · simp only [List.nil_append, List.cons_append]
                  simp only [lv_args, z_v, z_lg, z_h, z_u, z_u1, z_c, z_ct, z_sk, sbne, lst1_d, ldel, lst2_d, ldel2, z_sw, z_rok, zi, eq_self, List.map_cons, List.map_nil, List.append_nil, List.nil_append, List.cons_append, Int32.reduceLT, Int32.reduceLE, Int32.reduceAdd, Int32.reduceSub, Int32.reduceMul, Int32.reduceToInt, Int32.reduceToNatClampNeg, Int.reduceLT, Int.reduceLE, Int.reduceNeg, true_and, and_true, or_self, or_false, false_or, false_and, and_false, true_or, or_true, if_true, if_false, ne_eq, Classical.not_not, not_true_eq_false, not_false_eq_true, true_implies, false_implies, implies_true, Nat.reduceEqDiff, Nat.reduceAdd, Nat.reduceLeDiff, Nat.reduceSub, reduceCtorEq, reduceIte, b9_102, skX s2, srX s2, h00, e2i, R2, hkp2, nI_s]
                  refine dat (fun v h3 H3 hv => ?_)
                  have s3 := H3.1.1.1.1
                  have kp3 : hK h3 p = 7 := by rcases cc.1 with rfl | rfl <;> exact s3.1 _ (by decide)
                  simp only [lv_args, z_v, z_lg, z_h, z_u, z_u1, z_c, z_ct, z_sk, sbne, lst1_d, ldel, lst2_d, ldel2, z_sw, z_rok, zi, eq_self, List.map_cons, List.map_nil, List.append_nil, List.nil_append, List.cons_append, Int32.reduceLT, Int32.reduceLE, Int32.reduceAdd, Int32.reduceSub, Int32.reduceMul, Int32.reduceToInt, Int32.reduceToNatClampNeg, Int.reduceLT, Int.reduceLE, Int.reduceNeg, true_and, and_true, or_self, or_false, false_or, false_and, and_false, true_or, or_true, if_true, if_false, ne_eq, Classical.not_not, not_true_eq_false, not_false_eq_true, true_implies, false_implies, implies_true, Nat.reduceEqDiff, Nat.reduceAdd, Nat.reduceLeDiff, Nat.reduceSub, reduceCtorEq, reduceIte, b9_102, skX s2, skX s3, h00, Nat.reduceLT, hkp2, kp3]
                  refine sp_cput (s := (rDt z).length + 2 * i) (v := (cDm N mt f c dt).1) cc H3 (fun G => ⟨by rw [hs2 (gm G)], hv G, by have := hs2 (gm G); omega⟩) (fun h4 H4 => ?_)
                  have s4 := H4.1.1.1.1
                  have R4 := cc_R cc H4.1
                  have kp4 : hK h4 p = 7 := by rcases cc.1 with rfl | rfl <;> exact s4.1 _ (by decide)
                  simp only [lv_args, z_v, z_lg, z_h, z_u, z_u1, z_c, z_ct, z_sk, sbne, lst1_d, ldel, lst2_d, ldel2, z_sw, z_rok, zi, eq_self, List.map_cons, List.map_nil, List.append_nil, List.nil_append, List.cons_append, Int32.reduceLT, Int32.reduceLE, Int32.reduceAdd, Int32.reduceSub, Int32.reduceMul, Int32.reduceToInt, Int32.reduceToNatClampNeg, Int.reduceLT, Int.reduceLE, Int.reduceNeg, true_and, and_true, or_self, or_false, false_or, false_and, and_false, true_or, or_true, if_true, if_false, ne_eq, Classical.not_not, not_true_eq_false, not_false_eq_true, true_implies, false_implies, implies_true, Nat.reduceEqDiff, Nat.reduceAdd, Nat.reduceLeDiff, Nat.reduceSub, reduceCtorEq, reduceIte, b9_102, skX s3, skX s4, srX s4, h00, Nat.reduceLT, R4, kp4, nI_s]
                  simp (disch := omega) only [nI_leN]
                  refine ⟨fun ce => ?_, fun ce => ?_⟩
                  · have hl : l = [] := List.eq_nil_of_length_eq_zero (by omega)
                    simp only [lv_args, z_v, z_lg, z_h, z_u, z_u1, z_c, z_ct, z_sk, sbne, lst1_d, ldel, lst2_d, ldel2, z_sw, z_rok, zi, eq_self, List.map_cons, List.map_nil, List.append_nil, List.nil_append, List.cons_append, Int32.reduceLT, Int32.reduceLE, Int32.reduceAdd, Int32.reduceSub, Int32.reduceMul, Int32.reduceToInt, Int32.reduceToNatClampNeg, Int.reduceLT, Int.reduceLE, Int.reduceNeg, true_and, and_true, or_self, or_false, false_or, false_and, and_false, true_or, or_true, if_true, if_false, ne_eq, Classical.not_not, not_true_eq_false, not_false_eq_true, true_implies, false_implies, implies_true, Nat.reduceEqDiff, Nat.reduceAdd, Nat.reduceLeDiff, Nat.reduceSub, reduceCtorEq, reduceIte, b9_158, b9_163, skX s4, h00, e157v, Nat.reduceLT, kp4]
                    refine sp_cput (s := (rDt z).length + 2 * i + 1) (v := vof 4 0) cc H4 (fun G => ⟨by rw [hs4 G], rfl, hb4 G⟩) (fun h5 H5 => ?_)
                    have s5 := H5.1.1.1.1
                    have r5 := cc_rd cc H5.1
                    have nx := ih (i + 1) m (dU (dU (cDm N mt f c dt).2 ((rDt z).length + 2 * i) (cDm N mt f c dt).1) ((rDt z).length + 2 * i + 1) (vof 4 0)) h5 [(8, .int (nI (st + 2 * i)))] (Or.inr ⟨_, rfl⟩) f5 (by omega) (by omega) (fun G => hs4 ⟨G.1, G.2.1, by have := G.2.2; have e : (rDt (cDt (dU (dU (cDm N mt f c dt).2 ((rDt z).length + 2 * i) (cDm N mt f c dt).1) ((rDt z).length + 2 * i + 1) (vof 4 0)) z)).length = (rDt (cDt (dU (cDm N mt f c dt).2 ((rDt z).length + 2 * i) (cDm N mt f c dt).1) z)).length := dU_len; rw [e] at this; exact this⟩) H5 (fun h6 H6 hs6 => by
                      rw [es1] at H6 hs6
                      have e7 : cDmL (cDm N mt f) (c :: l) ((rDt z).length + 2 * i) dt = cDmL (cDm N mt f) l ((rDt z).length + 2 * i + 2) (dU (dU (cDm N mt f c dt).2 ((rDt z).length + 2 * i) (cDm N mt f c dt).1) ((rDt z).length + 2 * i + 1) (vof 4 0)) := by
                        show cDmL (cDm N mt f) l ((rDt z).length + 2 * i + 2) (dU _ _ (if l = [] then _ else _)) = _
                        rw [if_pos hl]
                      rw [e7] at q
                      exact q h6 H6 hs6)
                    simp only [List.nil_append, List.cons_append] at nx
                    simp only [lv_args, z_v, z_lg, z_h, z_u, z_u1, z_c, z_ct, z_sk, sbne, lst1_d, ldel, lst2_d, ldel2, z_sw, z_rok, zi, eq_self, List.map_cons, List.map_nil, List.append_nil, List.nil_append, List.cons_append, Int32.reduceLT, Int32.reduceLE, Int32.reduceAdd, Int32.reduceSub, Int32.reduceMul, Int32.reduceToInt, Int32.reduceToNatClampNeg, Int.reduceLT, Int.reduceLE, Int.reduceNeg, true_and, and_true, or_self, or_false, false_or, false_and, and_false, true_or, or_true, if_true, if_false, ne_eq, Classical.not_not, not_true_eq_false, not_false_eq_true, true_implies, false_implies, implies_true, Nat.reduceEqDiff, Nat.reduceAdd, Nat.reduceLeDiff, Nat.reduceSub, reduceCtorEq, reduceIte, b9_163, skX s4, skX s5, srX s5, h00, Nat.reduceLT, rd_x s5 r5 (by omega : c < N.1), f4, nI_1]
                    exact nx
                  · have hl : ¬ l = [] := fun e => ce (by rw [e] at hi; simp only [List.length_nil] at hi; omega)
                    simp only [lv_args, z_v, z_lg, z_h, z_u, z_u1, z_c, z_ct, z_sk, sbne, lst1_d, ldel, lst2_d, ldel2, z_sw, z_rok, zi, eq_self, List.map_cons, List.map_nil, List.append_nil, List.nil_append, List.cons_append, Int32.reduceLT, Int32.reduceLE, Int32.reduceAdd, Int32.reduceSub, Int32.reduceMul, Int32.reduceToInt, Int32.reduceToNatClampNeg, Int.reduceLT, Int.reduceLE, Int.reduceNeg, true_and, and_true, or_self, or_false, false_or, false_and, and_false, true_or, or_true, if_true, if_false, ne_eq, Classical.not_not, not_true_eq_false, not_false_eq_true, true_implies, false_implies, implies_true, Nat.reduceEqDiff, Nat.reduceAdd, Nat.reduceLeDiff, Nat.reduceSub, reduceCtorEq, reduceIte, b9_146, b9_163, skX s4, h00, e157v, Nat.reduceLT, kp4, e2]
                    refine sp_cput (s := (rDt z).length + 2 * i + 1) (v := vof 6 (nI ((rDt z).length + 2 * i + 2))) cc H4 (fun G => ⟨by rw [hs4 G], by rw [hs2 (gm ⟨G.1, G.2.1, by have := G.2.2; have e : (rDt (cDt (dU (cDm N mt f c dt).2 ((rDt z).length + 2 * i) (cDm N mt f c dt).1) z)).length = ((cDm N mt f c dt).2).length := dU_len; rw [e] at this; exact this⟩)], hb4 G⟩) (fun h5 H5 => ?_)
                    have s5 := H5.1.1.1.1
                    have r5 := cc_rd cc H5.1
                    have nx := ih (i + 1) m (dU (dU (cDm N mt f c dt).2 ((rDt z).length + 2 * i) (cDm N mt f c dt).1) ((rDt z).length + 2 * i + 1) (vof 6 (nI ((rDt z).length + 2 * i + 2)))) h5 [(8, .int (nI (st + 2 * i)))] (Or.inr ⟨_, rfl⟩) f5 (by omega) (by omega) (fun G => hs4 ⟨G.1, G.2.1, by have := G.2.2; have e : (rDt (cDt (dU (dU (cDm N mt f c dt).2 ((rDt z).length + 2 * i) (cDm N mt f c dt).1) ((rDt z).length + 2 * i + 1) (vof 6 (nI ((rDt z).length + 2 * i + 2)))) z)).length = (rDt (cDt (dU (cDm N mt f c dt).2 ((rDt z).length + 2 * i) (cDm N mt f c dt).1) z)).length := dU_len; rw [e] at this; exact this⟩) H5 (fun h6 H6 hs6 => by
                      rw [es1] at H6 hs6
                      have e7 : cDmL (cDm N mt f) (c :: l) ((rDt z).length + 2 * i) dt = cDmL (cDm N mt f) l ((rDt z).length + 2 * i + 2) (dU (dU (cDm N mt f c dt).2 ((rDt z).length + 2 * i) (cDm N mt f c dt).1) ((rDt z).length + 2 * i + 1) (vof 6 (nI ((rDt z).length + 2 * i + 2)))) := by
                        show cDmL (cDm N mt f) l ((rDt z).length + 2 * i + 2) (dU _ _ (if l = [] then _ else _)) = _
                        rw [if_neg hl]
                      rw [e7] at q
                      exact q h6 H6 hs6)
                    simp only [List.nil_append, List.cons_append] at nx
                    simp only [lv_args, z_v, z_lg, z_h, z_u, z_u1, z_c, z_ct, z_sk, sbne, lst1_d, ldel, lst2_d, ldel2, z_sw, z_rok, zi, eq_self, List.map_cons, List.map_nil, List.append_nil, List.nil_append, List.cons_append, Int32.reduceLT, Int32.reduceLE, Int32.reduceAdd, Int32.reduceSub, Int32.reduceMul, Int32.reduceToInt, Int32.reduceToNatClampNeg, Int.reduceLT, Int.reduceLE, Int.reduceNeg, true_and, and_true, or_self, or_false, false_or, false_and, and_false, true_or, or_true, if_true, if_false, ne_eq, Classical.not_not, not_true_eq_false, not_false_eq_true, true_implies, false_implies, implies_true, Nat.reduceEqDiff, Nat.reduceAdd, Nat.reduceLeDiff, Nat.reduceSub, reduceCtorEq, reduceIte, b9_163, skX s4, skX s5, srX s5, h00, Nat.reduceLT, rd_x s5 r5 (by omega : c < N.1), f4, nI_1]
                    exact nx
                · simp only [List.nil_append, List.cons_append]
                  simp only [lv_args, z_v, z_lg, z_h, z_u, z_u1, z_c, z_ct, z_sk, sbne, lst1_d, ldel, lst2_d, ldel2, z_sw, z_rok, zi, eq_self, List.map_cons, List.map_nil, List.append_nil, List.nil_append, List.cons_append, Int32.reduceLT, Int32.reduceLE, Int32.reduceAdd, Int32.reduceSub, Int32.reduceMul, Int32.reduceToInt, Int32.reduceToNatClampNeg, Int.reduceLT, Int.reduceLE, Int.reduceNeg, true_and, and_true, or_self, or_false, false_or, false_and, and_false, true_or, or_true, if_true, if_false, ne_eq, Classical.not_not, not_true_eq_false, not_false_eq_true, true_implies, false_implies, implies_true, Nat.reduceEqDiff, Nat.reduceAdd, Nat.reduceLeDiff, Nat.reduceSub, reduceCtorEq, reduceIte, b9_102, skX s2, srX s2, h00, e2i, R2, hkp2, nI_s]
                  refine dat (fun v h3 H3 hv => ?_)
                  have s3 := H3.1.1.1.1
                  have kp3 : hK h3 p = 7 := by rcases cc.1 with rfl | rfl <;> exact s3.1 _ (by decide)
                  simp only [lv_args, z_v, z_lg, z_h, z_u, z_u1, z_c, z_ct, z_sk, sbne, lst1_d, ldel, lst2_d, ldel2, z_sw, z_rok, zi, eq_self, List.map_cons, List.map_nil, List.append_nil, List.nil_append, List.cons_append, Int32.reduceLT, Int32.reduceLE, Int32.reduceAdd, Int32.reduceSub, Int32.reduceMul, Int32.reduceToInt, Int32.reduceToNatClampNeg, Int.reduceLT, Int.reduceLE, Int.reduceNeg, true_and, and_true, or_self, or_false, false_or, false_and, and_false, true_or, or_true, if_true, if_false, ne_eq, Classical.not_not, not_true_eq_false, not_false_eq_true, true_implies, false_implies, implies_true, Nat.reduceEqDiff, Nat.reduceAdd, Nat.reduceLeDiff, Nat.reduceSub, reduceCtorEq, reduceIte, b9_102, skX s2, skX s3, h00, Nat.reduceLT, hkp2, kp3]
                  refine sp_cput (s := (rDt z).length + 2 * i) (v := (cDm N mt f c dt).1) cc H3 (fun G => ⟨by rw [hs2 (gm G)], hv G, by have := hs2 (gm G); omega⟩) (fun h4 H4 => ?_)
                  have s4 := H4.1.1.1.1
                  have R4 := cc_R cc H4.1
                  have kp4 : hK h4 p = 7 := by rcases cc.1 with rfl | rfl <;> exact s4.1 _ (by decide)
                  simp only [lv_args, z_v, z_lg, z_h, z_u, z_u1, z_c, z_ct, z_sk, sbne, lst1_d, ldel, lst2_d, ldel2, z_sw, z_rok, zi, eq_self, List.map_cons, List.map_nil, List.append_nil, List.nil_append, List.cons_append, Int32.reduceLT, Int32.reduceLE, Int32.reduceAdd, Int32.reduceSub, Int32.reduceMul, Int32.reduceToInt, Int32.reduceToNatClampNeg, Int.reduceLT, Int.reduceLE, Int.reduceNeg, true_and, and_true, or_self, or_false, false_or, false_and, and_false, true_or, or_true, if_true, if_false, ne_eq, Classical.not_not, not_true_eq_false, not_false_eq_true, true_implies, false_implies, implies_true, Nat.reduceEqDiff, Nat.reduceAdd, Nat.reduceLeDiff, Nat.reduceSub, reduceCtorEq, reduceIte, b9_102, skX s3, skX s4, srX s4, h00, Nat.reduceLT, R4, kp4, nI_s]
                  simp (disch := omega) only [nI_leN]
                  refine ⟨fun ce => ?_, fun ce => ?_⟩
                  · have hl : l = [] := List.eq_nil_of_length_eq_zero (by omega)
                    simp only [lv_args, z_v, z_lg, z_h, z_u, z_u1, z_c, z_ct, z_sk, sbne, lst1_d, ldel, lst2_d, ldel2, z_sw, z_rok, zi, eq_self, List.map_cons, List.map_nil, List.append_nil, List.nil_append, List.cons_append, Int32.reduceLT, Int32.reduceLE, Int32.reduceAdd, Int32.reduceSub, Int32.reduceMul, Int32.reduceToInt, Int32.reduceToNatClampNeg, Int.reduceLT, Int.reduceLE, Int.reduceNeg, true_and, and_true, or_self, or_false, false_or, false_and, and_false, true_or, or_true, if_true, if_false, ne_eq, Classical.not_not, not_true_eq_false, not_false_eq_true, true_implies, false_implies, implies_true, Nat.reduceEqDiff, Nat.reduceAdd, Nat.reduceLeDiff, Nat.reduceSub, reduceCtorEq, reduceIte, b9_158, b9_163, skX s4, h00, e157v, Nat.reduceLT, kp4]
                    refine sp_cput (s := (rDt z).length + 2 * i + 1) (v := vof 4 0) cc H4 (fun G => ⟨by rw [hs4 G], rfl, hb4 G⟩) (fun h5 H5 => ?_)
                    have s5 := H5.1.1.1.1
                    have r5 := cc_rd cc H5.1
                    have nx := ih (i + 1) m (dU (dU (cDm N mt f c dt).2 ((rDt z).length + 2 * i) (cDm N mt f c dt).1) ((rDt z).length + 2 * i + 1) (vof 4 0)) h5 [(8, .int (nI (st + 2 * i)))] (Or.inr ⟨_, rfl⟩) f5 (by omega) (by omega) (fun G => hs4 ⟨G.1, G.2.1, by have := G.2.2; have e : (rDt (cDt (dU (dU (cDm N mt f c dt).2 ((rDt z).length + 2 * i) (cDm N mt f c dt).1) ((rDt z).length + 2 * i + 1) (vof 4 0)) z)).length = (rDt (cDt (dU (cDm N mt f c dt).2 ((rDt z).length + 2 * i) (cDm N mt f c dt).1) z)).length := dU_len; rw [e] at this; exact this⟩) H5 (fun h6 H6 hs6 => by
                      rw [es1] at H6 hs6
                      have e7 : cDmL (cDm N mt f) (c :: l) ((rDt z).length + 2 * i) dt = cDmL (cDm N mt f) l ((rDt z).length + 2 * i + 2) (dU (dU (cDm N mt f c dt).2 ((rDt z).length + 2 * i) (cDm N mt f c dt).1) ((rDt z).length + 2 * i + 1) (vof 4 0)) := by
                        show cDmL (cDm N mt f) l ((rDt z).length + 2 * i + 2) (dU _ _ (if l = [] then _ else _)) = _
                        rw [if_pos hl]
                      rw [e7] at q
                      exact q h6 H6 hs6)
                    simp only [List.nil_append, List.cons_append] at nx
                    simp only [lv_args, z_v, z_lg, z_h, z_u, z_u1, z_c, z_ct, z_sk, sbne, lst1_d, ldel, lst2_d, ldel2, z_sw, z_rok, zi, eq_self, List.map_cons, List.map_nil, List.append_nil, List.nil_append, List.cons_append, Int32.reduceLT, Int32.reduceLE, Int32.reduceAdd, Int32.reduceSub, Int32.reduceMul, Int32.reduceToInt, Int32.reduceToNatClampNeg, Int.reduceLT, Int.reduceLE, Int.reduceNeg, true_and, and_true, or_self, or_false, false_or, false_and, and_false, true_or, or_true, if_true, if_false, ne_eq, Classical.not_not, not_true_eq_false, not_false_eq_true, true_implies, false_implies, implies_true, Nat.reduceEqDiff, Nat.reduceAdd, Nat.reduceLeDiff, Nat.reduceSub, reduceCtorEq, reduceIte, b9_163, skX s4, skX s5, srX s5, h00, Nat.reduceLT, rd_x s5 r5 (by omega : c < N.1), f4, nI_1]
                    exact nx
                  · have hl : ¬ l = [] := fun e => ce (by rw [e] at hi; simp only [List.length_nil] at hi; omega)
                    simp only [lv_args, z_v, z_lg, z_h, z_u, z_u1, z_c, z_ct, z_sk, sbne, lst1_d, ldel, lst2_d, ldel2, z_sw, z_rok, zi, eq_self, List.map_cons, List.map_nil, List.append_nil, List.nil_append, List.cons_append, Int32.reduceLT, Int32.reduceLE, Int32.reduceAdd, Int32.reduceSub, Int32.reduceMul, Int32.reduceToInt, Int32.reduceToNatClampNeg, Int.reduceLT, Int.reduceLE, Int.reduceNeg, true_and, and_true, or_self, or_false, false_or, false_and, and_false, true_or, or_true, if_true, if_false, ne_eq, Classical.not_not, not_true_eq_false, not_false_eq_true, true_implies, false_implies, implies_true, Nat.reduceEqDiff, Nat.reduceAdd, Nat.reduceLeDiff, Nat.reduceSub, reduceCtorEq, reduceIte, b9_146, b9_163, skX s4, h00, e157v, Nat.reduceLT, kp4, e2]
                    refine sp_cput (s := (rDt z).length + 2 * i + 1) (v := vof 6 (nI ((rDt z).length + 2 * i + 2))) cc H4 (fun G => ⟨by rw [hs4 G], by rw [hs2 (gm ⟨G.1, G.2.1, by have := G.2.2; have e : (rDt (cDt (dU (cDm N mt f c dt).2 ((rDt z).length + 2 * i) (cDm N mt f c dt).1) z)).length = ((cDm N mt f c dt).2).length := dU_len; rw [e] at this; exact this⟩)], hb4 G⟩) (fun h5 H5 => ?_)
                    have s5 := H5.1.1.1.1
                    have r5 := cc_rd cc H5.1
                    have nx := ih (i + 1) m (dU (dU (cDm N mt f c dt).2 ((rDt z).length + 2 * i) (cDm N mt f c dt).1) ((rDt z).length + 2 * i + 1) (vof 6 (nI ((rDt z).length + 2 * i + 2)))) h5 [(8, .int (nI (st + 2 * i)))] (Or.inr ⟨_, rfl⟩) f5 (by omega) (by omega) (fun G => hs4 ⟨G.1, G.2.1, by have := G.2.2; have e : (rDt (cDt (dU (dU (cDm N mt f c dt).2 ((rDt z).length + 2 * i) (cDm N mt f c dt).1) ((rDt z).length + 2 * i + 1) (vof 6 (nI ((rDt z).length + 2 * i + 2)))) z)).length = (rDt (cDt (dU (cDm N mt f c dt).2 ((rDt z).length + 2 * i) (cDm N mt f c dt).1) z)).length := dU_len; rw [e] at this; exact this⟩) H5 (fun h6 H6 hs6 => by
                      rw [es1] at H6 hs6
                      have e7 : cDmL (cDm N mt f) (c :: l) ((rDt z).length + 2 * i) dt = cDmL (cDm N mt f) l ((rDt z).length + 2 * i + 2) (dU (dU (cDm N mt f c dt).2 ((rDt z).length + 2 * i) (cDm N mt f c dt).1) ((rDt z).length + 2 * i + 1) (vof 6 (nI ((rDt z).length + 2 * i + 2)))) := by
                        show cDmL (cDm N mt f) l ((rDt z).length + 2 * i + 2) (dU _ _ (if l = [] then _ else _)) = _
                        rw [if_neg hl]
                      rw [e7] at q
                      exact q h6 H6 hs6)
                    simp only [List.nil_append, List.cons_append] at nx
                    simp only [lv_args, z_v, z_lg, z_h, z_u, z_u1, z_c, z_ct, z_sk, sbne, lst1_d, ldel, lst2_d, ldel2, z_sw, z_rok, zi, eq_self, List.map_cons, List.map_nil, List.append_nil, List.nil_append, List.cons_append, Int32.reduceLT, Int32.reduceLE, Int32.reduceAdd, Int32.reduceSub, Int32.reduceMul, Int32.reduceToInt, Int32.reduceToNatClampNeg, Int.reduceLT, Int.reduceLE, Int.reduceNeg, true_and, and_true, or_self, or_false, false_or, false_and, and_false, true_or, or_true, if_true, if_false, ne_eq, Classical.not_not, not_true_eq_false, not_false_eq_true, true_implies, false_implies, implies_true, Nat.reduceEqDiff, Nat.reduceAdd, Nat.reduceLeDiff, Nat.reduceSub, reduceCtorEq, reduceIte, b9_163, skX s4, skX s5, srX s5, h00, Nat.reduceLT, rd_x s5 r5 (by omega : c < N.1), f4, nI_1]
                    exact nx
              rcases hT with rfl | ⟨x, rfl⟩
              · simp only [List.nil_append, List.cons_append] at step ⊢
                simp only [lv_args, z_v, z_lg, z_h, z_u, z_u1, z_c, z_ct, z_sk, sbne, lst1_d, ldel, lst2_d, ldel2, z_sw, z_rok, zi, eq_self, List.map_cons, List.map_nil, List.append_nil, List.nil_append, List.cons_append, Int32.reduceLT, Int32.reduceLE, Int32.reduceAdd, Int32.reduceSub, Int32.reduceMul, Int32.reduceToInt, Int32.reduceToNatClampNeg, Int.reduceLT, Int.reduceLE, Int.reduceNeg, true_and, and_true, or_self, or_false, false_or, false_and, and_false, true_or, or_true, if_true, if_false, ne_eq, Classical.not_not, not_true_eq_false, not_false_eq_true, true_implies, false_implies, implies_true, Nat.reduceEqDiff, Nat.reduceAdd, Nat.reduceLeDiff, Nat.reduceSub, reduceCtorEq, reduceIte, b9_95, ho]
                simp (disch := omega) only [nI_leN]
                exact ⟨fun c => absurd c (by omega), fun _ => step⟩
              · simp only [List.nil_append, List.cons_append] at step ⊢
                simp only [lv_args, z_v, z_lg, z_h, z_u, z_u1, z_c, z_ct, z_sk, sbne, lst1_d, ldel, lst2_d, ldel2, z_sw, z_rok, zi, eq_self, List.map_cons, List.map_nil, List.append_nil, List.nil_append, List.cons_append, Int32.reduceLT, Int32.reduceLE, Int32.reduceAdd, Int32.reduceSub, Int32.reduceMul, Int32.reduceToInt, Int32.reduceToNatClampNeg, Int.reduceLT, Int.reduceLE, Int.reduceNeg, true_and, and_true, or_self, or_false, false_or, false_and, and_false, true_or, or_true, if_true, if_false, ne_eq, Classical.not_not, not_true_eq_false, not_false_eq_true, true_implies, false_implies, implies_true, Nat.reduceEqDiff, Nat.reduceAdd, Nat.reduceLeDiff, Nat.reduceSub, reduceCtorEq, reduceIte, b9_95, ho]
                simp (disch := omega) only [nI_leN]
                exact ⟨fun c => absurd c (by omega), fun _ => step⟩
          have go := loop (pts N n) 0 (n + 1) (rDt z ++ (n, none) :: List.replicate (2 * (pts N n).length - 1) (0, none)) h1 [] (Or.inl rfl) tp3 (by omega) (Nat.zero_add _) (fun G => hst ⟨G.1, G.2.1, by
            have h2 : (rDt z ++ (n, none) :: List.replicate (2 * (pts N n).length - 1) ((0, none) : DTe)).length ≤ c2 := G.2.2
            rw [List.length_append] at h2
            show (rDt z).length ≤ c2
            omega⟩) H1 (fun h3 H3 hs3 => hq _ h3 H3 (fun G => by rw [hs3 G]))
          simp only [List.nil_append] at go
          simp only [lv_args, z_v, z_lg, z_h, z_u, z_u1, z_c, z_ct, z_sk, sbne, lst1_d, ldel, lst2_d, ldel2, z_sw, z_rok, zi, eq_self, List.map_cons, List.map_nil, List.append_nil, List.nil_append, List.cons_append, Int32.reduceLT, Int32.reduceLE, Int32.reduceAdd, Int32.reduceSub, Int32.reduceMul, Int32.reduceToInt, Int32.reduceToNatClampNeg, Int.reduceLT, Int.reduceLE, Int.reduceNeg, true_and, and_true, or_self, or_false, false_or, false_and, and_false, true_or, or_true, if_true, if_false, ne_eq, Classical.not_not, not_true_eq_false, not_false_eq_true, true_implies, false_implies, implies_true, Nat.reduceEqDiff, Nat.reduceAdd, Nat.reduceLeDiff, Nat.reduceSub, reduceCtorEq, reduceIte, b9_71, skX s, skX s1, srX s1, h00, Nat.reduceLT, rd_f s1 r1 hn, tp2]
          exact go
      · have ev : cDm N mt (f + 1) n (rDt z) = (vof (nK N n) (nC N n), rDt z) := (if_neg c5).trans (if_pos c6)
        rw [ev] at hq
        have c6' : ¬ nK N n = 6 := c6
        simp only [lv_args, z_v, z_lg, z_h, z_u, z_u1, z_c, z_ct, z_sk, sbne, lst1_d, ldel, lst2_d, ldel2, z_sw, z_rok, zi, eq_self, List.map_cons, List.map_nil, List.append_nil, List.nil_append, List.cons_append, Int32.reduceLT, Int32.reduceLE, Int32.reduceAdd, Int32.reduceSub, Int32.reduceMul, Int32.reduceToInt, Int32.reduceToNatClampNeg, Int.reduceLT, Int.reduceLE, Int.reduceNeg, true_and, and_true, or_self, or_false, false_or, false_and, and_false, true_or, or_true, if_true, if_false, ne_eq, Classical.not_not, not_true_eq_false, not_false_eq_true, true_implies, false_implies, implies_true, Nat.reduceEqDiff, Nat.reduceAdd, Nat.reduceLeDiff, Nat.reduceSub, reduceCtorEq, reduceIte, b9_41, c6', not_false_eq_true, false_imp_iff, true_imp_iff, and_true, true_and]
        simp only [lv_args, z_v, z_lg, z_h, z_u, z_u1, z_c, z_ct, z_sk, sbne, lst1_d, ldel, lst2_d, ldel2, z_sw, z_rok, zi, eq_self, List.map_cons, List.map_nil, List.append_nil, List.nil_append, List.cons_append, Int32.reduceLT, Int32.reduceLE, Int32.reduceAdd, Int32.reduceSub, Int32.reduceMul, Int32.reduceToInt, Int32.reduceToNatClampNeg, Int.reduceLT, Int.reduceLE, Int.reduceNeg, true_and, and_true, or_self, or_false, false_or, false_and, and_false, true_or, or_true, if_true, if_false, ne_eq, Classical.not_not, not_true_eq_false, not_false_eq_true, true_implies, false_implies, implies_true, Nat.reduceEqDiff, Nat.reduceAdd, Nat.reduceLeDiff, Nat.reduceSub, reduceCtorEq, reduceIte, b9_47, skX s, h00, e157v, Nat.reduceLT]
        exact hq _ h H (fun _ => rfl)
end CDQ
