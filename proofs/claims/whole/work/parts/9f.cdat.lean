/-! BUILD. The data of quotes -/
section CDT
variable {h h' h0 : Hp} {Q : Option Value → Hp → Prop} {d p c1 c2 n : Nat} {N : NS} {mt op : List Nat} {K : List KY} {z : CR}
/-- a field of the data is put -/
theorem sp_cput {dt : List DTe} {s : Nat} {v v' : Int64} {a : Int32} (cc : CC N mt K p c1 c2 h0) (H : CH N K p c1 c2 h0 op (cDt dt z) h) (hx : gd c1 c2 (cDt dt z) → a = nI s ∧ v' = v ∧ s < 1000000) (hq : ∀ h', CH N K p c1 c2 h0 op (cDt (dU dt s v) z) h' → Q none h') : aEv d 105 [.ref p, .int a, .long v'] h Q := by
  obtain ⟨hp, _, _, _, _, ⟨y1, y2, _⟩, _⟩ := cc
  obtain ⟨⟨⟨cb, kx⟩, ⟨n1, n3⟩, da, ft, sc, ⟨pb1, ⟨sz, z1, z2⟩, pb2⟩, gx⟩, fm⟩ := H
  have s0 := cb.1
  have gU : gd c1 c2 (cDt (dU dt s v) z) → gd c1 c2 (cDt dt z) := fun G => ⟨G.1, G.2.1, by have := G.2.2; have e : (rDt (cDt (dU dt s v) z)).length = dt.length := dU_len; rw [e] at this; exact this⟩
  rcases hp with rfl | rfl
  · have n3 : hN h 22 = c2 := n3
    have z1 : hI h 19 4 = nI sz := z1
    have z2 : sz ≤ hN h 22 := z2
    have same : (gd c1 c2 (cDt dt z) → ¬ s < dt.length) → Q none h := fun c => by
      refine hq _ ⟨⟨⟨cb, kx⟩, ⟨n1, n3⟩, da, ft, sc, ⟨pb1, ⟨sz, z1, z2⟩, pb2⟩, fun G => ?_⟩, fm⟩
      have e : dU dt s v = dt := List.set_eq_of_length_le (Nat.le_of_not_lt (c (gU G)))
      rw [e]
      exact gx (gU G)
    have szl : gd c1 c2 (cDt dt z) → sz = dt.length := fun G => nI_inj (by omega) (by have : dt.length ≤ c2 := G.2.2; omega) (z1.symm.trans (gx G).2.2.2.2.2.1)
    rw [e105_19 _ _ s0, z1]
    refine ⟨fun c => same (fun G => ?_), fun c => ⟨fun c3 => same (fun G => ?_), fun c3 => ?_⟩⟩
    · obtain ⟨x1, _, x3⟩ := hx G
      rw [x1] at c
      exact absurd c (nI_nl (by omega))
    · obtain ⟨x1, _, x3⟩ := hx G
      rw [x1, nI_leN (by omega) (by omega), szl G] at c3
      omega
    · have b1 := i32_0 c
      have c3' : a < nI sz := by
        have h1 : ¬ (nI sz).toInt ≤ a.toInt := fun w => c3 (Int32.le_iff_toInt_le.mpr w)
        refine Int32.lt_iff_toInt_lt.mpr ?_
        omega
      have b2 := i32_lt (by omega) c3'
      refine ⟨⟨b1, by omega⟩, hq _ ⟨⟨⟨cb_b cb, kx_B kx (by unfold XP; omega)⟩, ⟨n1, n3⟩, da, ft, sc, ⟨pb1, ⟨sz, z1, z2⟩, pb2⟩, fun G => ?_⟩, fm⟩⟩
      have G0 := gU G
      obtain ⟨x1, x2, x3⟩ := hx G0
      obtain ⟨g1, g2, g3, g4, g5, g6, g7, g8⟩ := gx G0
      have hcl : a.toNatClampNeg = s := by rw [x1, nI_cl (by omega)]
      refine ⟨g1, g2, g3, g4, g5, ?_, fun i m w hi => ?_, g8⟩
      · show hI h 19 4 = nI (dU dt s v).length
        rw [dU_len]; exact g6
      · have hi : (dt.set s ((dt.getD s (0, none)).1, some v))[i]? = some (m, some w) := hi
        show vp_updL (hB h 22) a.toNatClampNeg v' i = w
        rw [hcl]
        unfold vp_updL
        by_cases c : i = s
        · subst c
          rw [if_pos rfl]
          have hl := g_lt hi
          rw [List.length_set] at hl
          rw [List.getElem?_set_self hl] at hi
          injection hi with hi
          injection hi with _ hi
          injection hi with hi
          rw [x2, hi]
        · rw [List.getElem?_set_ne (Ne.symm c)] at hi
          rw [if_neg c]
          exact g7 i m w hi
  · have n3 : hN h 32 = c2 := n3
    have z1 : hI h 29 4 = nI sz := z1
    have z2 : sz ≤ hN h 32 := z2
    have same : (gd c1 c2 (cDt dt z) → ¬ s < dt.length) → Q none h := fun c => by
      refine hq _ ⟨⟨⟨cb, kx⟩, ⟨n1, n3⟩, da, ft, sc, ⟨pb1, ⟨sz, z1, z2⟩, pb2⟩, fun G => ?_⟩, fm⟩
      have e : dU dt s v = dt := List.set_eq_of_length_le (Nat.le_of_not_lt (c (gU G)))
      rw [e]
      exact gx (gU G)
    have szl : gd c1 c2 (cDt dt z) → sz = dt.length := fun G => nI_inj (by omega) (by have : dt.length ≤ c2 := G.2.2; omega) (z1.symm.trans (gx G).2.2.2.2.2.1)
    rw [e105_29 _ _ s0, z1]
    refine ⟨fun c => same (fun G => ?_), fun c => ⟨fun c3 => same (fun G => ?_), fun c3 => ?_⟩⟩
    · obtain ⟨x1, _, x3⟩ := hx G
      rw [x1] at c
      exact absurd c (nI_nl (by omega))
    · obtain ⟨x1, _, x3⟩ := hx G
      rw [x1, nI_leN (by omega) (by omega), szl G] at c3
      omega
    · have b1 := i32_0 c
      have c3' : a < nI sz := by
        have h1 : ¬ (nI sz).toInt ≤ a.toInt := fun w => c3 (Int32.le_iff_toInt_le.mpr w)
        refine Int32.lt_iff_toInt_lt.mpr ?_
        omega
      have b2 := i32_lt (by omega) c3'
      refine ⟨⟨b1, by omega⟩, hq _ ⟨⟨⟨cb_b cb, kx_B kx (by unfold XP; omega)⟩, ⟨n1, n3⟩, da, ft, sc, ⟨pb1, ⟨sz, z1, z2⟩, pb2⟩, fun G => ?_⟩, fm⟩⟩
      have G0 := gU G
      obtain ⟨x1, x2, x3⟩ := hx G0
      obtain ⟨g1, g2, g3, g4, g5, g6, g7, g8⟩ := gx G0
      have hcl : a.toNatClampNeg = s := by rw [x1, nI_cl (by omega)]
      refine ⟨g1, g2, g3, g4, g5, ?_, fun i m w hi => ?_, g8⟩
      · show hI h 29 4 = nI (dU dt s v).length
        rw [dU_len]; exact g6
      · have hi : (dt.set s ((dt.getD s (0, none)).1, some v))[i]? = some (m, some w) := hi
        show vp_updL (hB h 32) a.toNatClampNeg v' i = w
        rw [hcl]
        unfold vp_updL
        by_cases c : i = s
        · subst c
          rw [if_pos rfl]
          have hl := g_lt hi
          rw [List.length_set] at hl
          rw [List.getElem?_set_self hl] at hi
          injection hi with hi
          injection hi with _ hi
          injection hi with hi
          rw [x2, hi]
        · rw [List.getElem?_set_ne (Ne.symm c)] at hi
          rw [if_neg c]
          exact g7 i m w hi
/-- room for pairs among the data -/
theorem sp_reserve {dt : List DTe} {k : Nat} (cc : CC N mt K p c1 c2 h0) (H : CH N K p c1 c2 h0 op (cDt dt z) h) (hk : 1 ≤ k ∧ k ≤ 10000) (hd : 0 < d) (hq : ∀ st h', CH N K p c1 c2 h0 op (cDt (dt ++ (n, none) :: List.replicate (2 * k - 1) (0, none)) z) h' → st ≤ 30000 → (gd c1 c2 (cDt dt z) → st = dt.length) → Q (some (.int (nI st))) h') : aEv d 106 [.ref p, .int (nI k)] h Q := by
  obtain ⟨hp, _, _, _, _, ⟨y1, y2, _⟩, _⟩ := cc
  obtain ⟨⟨⟨cb, kx⟩, ⟨n1, n3⟩, da, ft, sc, ⟨pb1, ⟨sz, z1, z2⟩, pb2⟩, gx⟩, fm⟩ := H
  have s0 := cb.1
  have len : (dt ++ (n, none) :: List.replicate (2 * k - 1) ((0, none) : DTe)).length = dt.length + 2 * k := by
    rw [List.length_append, List.length_cons, List.length_replicate]; omega
  have gU : gd c1 c2 (cDt (dt ++ (n, none) :: List.replicate (2 * k - 1) (0, none)) z) → gd c1 c2 (cDt dt z) ∧ dt.length + 2 * k ≤ c2 := fun G => by
    have h1 : (dt ++ (n, none) :: List.replicate (2 * k - 1) ((0, none) : DTe)).length ≤ c2 := G.2.2
    rw [len] at h1
    exact ⟨⟨G.1, G.2.1, by show dt.length ≤ c2; omega⟩, h1⟩
  have e2 : (2 : Int32) * nI k = nI (2 * k) := (Int32.ofNat_mul 2 k).symm
  rcases hp with rfl | rfl
  · have n3 : hN h 22 = c2 := n3
    have z1 : hI h 19 4 = nI sz := z1
    have z2 : sz ≤ hN h 22 := z2
    have szl : gd c1 c2 (cDt dt z) → sz = dt.length := fun G => nI_inj (by omega) (by have : dt.length ≤ c2 := G.2.2; omega) (z1.symm.trans (gx G).2.2.2.2.2.1)
    rw [e106_19 _ _ s0, z1, n3, e2, nI_add, nI_ltN (by omega) (by omega)]
    refine ⟨hd, fun c => hq sz _ ⟨⟨⟨cb_i cb, kx_I kx (by unfold XP; omega)⟩, ⟨n1, n3⟩, da, ft, sc, ⟨pb1, ⟨c2, rfl, by show c2 ≤ hN h 22; omega⟩, pb2⟩, fun G => ?_⟩, fm⟩ (by omega) szl, fun c => hq sz _ ⟨⟨⟨cb_i cb, kx_I kx (by unfold XP; omega)⟩, ⟨n1, n3⟩, da, ft, sc, ⟨pb1, ⟨sz + 2 * k, rfl, by show sz + 2 * k ≤ hN h 22; omega⟩, pb2⟩, fun G => ?_⟩, fm⟩ (by omega) szl⟩
    · obtain ⟨G0, G1⟩ := gU G
      have := szl G0
      omega
    · obtain ⟨G0, G1⟩ := gU G
      obtain ⟨g1, g2, g3, g4, g5, g6, g7, g8⟩ := gx G0
      refine ⟨g1, g2, g3, g4, g5, ?_, fun i m w hi => ?_, g8⟩
      · show nI (sz + 2 * k) = nI (dt ++ (n, none) :: List.replicate (2 * k - 1) ((0, none) : DTe)).length
        rw [len, szl G0]
      · have hi : (dt ++ (n, none) :: List.replicate (2 * k - 1) ((0, none) : DTe))[i]? = some (m, some w) := hi
        by_cases c : i < dt.length
        · rw [List.getElem?_append_left c] at hi
          exact g7 i m w hi
        · rw [List.getElem?_append_right (by omega)] at hi
          have := List.mem_of_getElem? hi
          rcases List.mem_cons.mp this with e | e
          · injection e with _ e
            cases e
          · have := (List.mem_replicate.mp e).2
            injection this with _ e
            cases e
  · have n3 : hN h 32 = c2 := n3
    have z1 : hI h 29 4 = nI sz := z1
    have z2 : sz ≤ hN h 32 := z2
    have szl : gd c1 c2 (cDt dt z) → sz = dt.length := fun G => nI_inj (by omega) (by have : dt.length ≤ c2 := G.2.2; omega) (z1.symm.trans (gx G).2.2.2.2.2.1)
    rw [e106_29 _ _ s0, z1, n3, e2, nI_add, nI_ltN (by omega) (by omega)]
    refine ⟨hd, fun c => hq sz _ ⟨⟨⟨cb_i cb, kx_I kx (by unfold XP; omega)⟩, ⟨n1, n3⟩, da, ft, sc, ⟨pb1, ⟨c2, rfl, by show c2 ≤ hN h 32; omega⟩, pb2⟩, fun G => ?_⟩, fm⟩ (by omega) szl, fun c => hq sz _ ⟨⟨⟨cb_i cb, kx_I kx (by unfold XP; omega)⟩, ⟨n1, n3⟩, da, ft, sc, ⟨pb1, ⟨sz + 2 * k, rfl, by show sz + 2 * k ≤ hN h 32; omega⟩, pb2⟩, fun G => ?_⟩, fm⟩ (by omega) szl⟩
    · obtain ⟨G0, G1⟩ := gU G
      have := szl G0
      omega
    · obtain ⟨G0, G1⟩ := gU G
      obtain ⟨g1, g2, g3, g4, g5, g6, g7, g8⟩ := gx G0
      refine ⟨g1, g2, g3, g4, g5, ?_, fun i m w hi => ?_, g8⟩
      · show nI (sz + 2 * k) = nI (dt ++ (n, none) :: List.replicate (2 * k - 1) ((0, none) : DTe)).length
        rw [len, szl G0]
      · have hi : (dt ++ (n, none) :: List.replicate (2 * k - 1) ((0, none) : DTe))[i]? = some (m, some w) := hi
        by_cases c : i < dt.length
        · rw [List.getElem?_append_left c] at hi
          exact g7 i m w hi
        · rw [List.getElem?_append_right (by omega)] at hi
          have := List.mem_of_getElem? hi
          rcases List.mem_cons.mp this with e | e
          · injection e with _ e
            cases e
          · have := (List.mem_replicate.mp e).2
            injection this with _ e
            cases e
theorem nt_kx (cc : CC N mt K p c1 c2 h0) (H : CH N K p c1 c2 h0 op z h) : NT K mt h := by
  have k := H.1.1.2
  have hp := cc.1
  have nt := cc.2.2.2.1.1
  have f : ∀ a, a < 19 → a ≠ 2 → ¬ XP p a := fun a h1 h2 c => by unfold XP at c; omega
  unfold NT at nt ⊢
  rw [(k.2 4 (f 4 (by decide) (by decide))).1, (k.2 5 (f 5 (by decide) (by decide))).2.2.2.1, (k.2 6 (f 6 (by decide) (by decide))).2.2.2.1, (k.2 7 (f 7 (by decide) (by decide))).2.2.1, (k.2 8 (f 8 (by decide) (by decide))).2.2.1, (k.2 9 (f 9 (by decide) (by decide))).2.2.1, (k.2 9 (f 9 (by decide) (by decide))).2.2.2.2]
  exact nt
/-- the number of a name that was met -/
theorem sp_numberOf {j : Nat} (cc : CC N mt K p c1 c2 h0) (H : CH N K p c1 c2 h0 op z h) (hj : j ∈ mt) (hq : Q (some (.int (nI (mt.idxOf j)))) h) : aEv d 83 [.ref 4, .int (nI j)] h Q := by
  have nt := nt_kx cc H
  have hp := cc.1
  have e8 : hN h 8 = hN h0 8 := (H.1.1.2.2 8 (fun c => by unfold XP at c; omega)).2.2.2.2
  have m8 := cc.2.2.2.1.2.1
  obtain ⟨⟨n1, n2⟩, n3, n4, n5, n6, ⟨n7, n8, n9⟩, n10⟩ := nt
  have hjK := n9 j hj
  obtain ⟨i, hi, ei⟩ | ⟨hn, _⟩ := n10 j hjK
  · have ix : mt.idxOf j = i := idx_at hi (fun i' hi' c => by
      have := (List.getElem?_inj (g_lt c) n8).mp (c.trans hi.symm)
      omega)
    have x1 : (K.length ≤ j) = False := eq_false (by omega)
    have x2 : (j < hN h 8) = True := eq_true (by omega)
    rw [e83_4 _ _ H.1.1.1.1, n1]
    simp (disch := omega) only [nI_lt0, nI_leN, nI_ti, nI_cl, le0N, ltNN, x1, x2, false_imp_iff, not_false_eq_true, true_imp_iff, true_and, and_true, ei]
    rw [ix] at hq
    exact hq
  · exact absurd hj hn
end CDT
section CDQ
variable {h h' h0 : Hp} {Q : Option Value → Hp → Prop} {d p c1 c2 n : Nat} {N : NS} {mt op : List Nat} {K : List KY} {z : CR}
theorem cDt_cDt {a b : List DTe} : cDt b (cDt a z) = cDt b z := rfl
/-- a name's node -/
theorem nok_name (nk : Nok N mt) (h1 : 1 ≤ n) (h2 : n < N.1) (h5 : nK N n = 5) : ∃ j, j ∈ mt ∧ nC N n = nI j ∧ nCn N n = j ∧ j < 100000 := by
  rcases nk.1 n h1 h2 with e | ⟨e, _⟩ | ⟨_, j, hj, e⟩ | e
  · rw [h5] at e; exact absurd e (by decide)
  · rw [h5] at e; exact absurd e (by decide)
  · have := nk.2.1 j hj
    exact ⟨j, hj, e, by unfold nCn; rw [e, tn_nI (by omega)], this⟩
  · rw [h5] at e; exact absurd e (by decide)
theorem sp_datum (cc : CC N mt K p c1 c2 h0) : ∀ (f g n b lv : Nat) (z : CR) (h : Hp) (d : Nat) (Q : Option Value → Hp → Prop), g ≤ f → Tr g N n b → b ≤ N.1 → 1 ≤ n → lv + g ≤ 33 → CH N K p c1 c2 h0 op z h → 2 * g + 5 < d → (∀ v h', CH N K p c1 c2 h0 op (cDt (cDm N mt f n (rDt z)).2 z) h' → (gd c1 c2 (cDt (cDm N mt f n (rDt z)).2 z) → v = (cDm N mt f n (rDt z)).1) → Q (some (.long v)) h') → aEv d 9 [.ref 39, .int (nI n), .int (nI lv)] h Q
  | 0, g, n, b, lv, z, h, d, Q, hg, ht, _, _, _, _, _, _ => by
    have : g = 0 := by omega
    subst this
    exact ht.elim
  | f + 1, 0, n, b, lv, z, h, d, Q, hg, ht, _, _, _, _, _, _ => ht.elim
  | f + 1, g + 1, n, b, lv, z, h, d, Q, hg, ht, hb, hn1, hlv, H, hd, hq => by
    have h00 : 0 < d := by omega
    have nk := cc.2.2.2.2.1
    have hN1 := nk.2.2
    have hnb : n < b := by
      rcases ht with ⟨_, e⟩ | ⟨_, _, _, _, e, _⟩
      · omega
      · exact e
    have hn : n < N.1 := by omega
    have s := H.1.1.1.1
    have r := cc_rd cc H.1
    have hR3 := cc_R cc H.1
    have z5 : (5 : Int32) = nI 5 := rfl
    have z33 : (32 : Int32) = nI 32 := rfl
    have e0 : cDt (rDt z) z = z := rfl
    unfold aEv
    simp only [lv_args, z_v, z_lg, z_h, z_u, z_u1, z_c, z_ct, z_sk, sbne, lst1_d, ldel, lst2_d, ldel2, z_sw, z_rok, zi, eq_self, List.map_cons, List.map_nil, List.append_nil, List.nil_append, List.cons_append, Int32.reduceLT, Int32.reduceLE, Int32.reduceAdd, Int32.reduceSub, Int32.reduceMul, Int32.reduceToInt, Int32.reduceToNatClampNeg, Int.reduceLT, Int.reduceLE, Int.reduceNeg, true_and, and_true, or_self, or_false, false_or, false_and, and_false, true_or, or_true, if_true, if_false, ne_eq, Classical.not_not, not_true_eq_false, not_false_eq_true, true_implies, false_implies, implies_true, Nat.reduceEqDiff, Nat.reduceAdd, Nat.reduceLeDiff, Nat.reduceSub, reduceCtorEq, reduceIte, b9_0, skX s, srX s, h00, rd_k s r hn, rd_c s r hn]
    by_cases c5 : nK N n = 5
    · obtain ⟨j, hj, ej, ej2, _⟩ := nok_name nk hn1 hn c5
      have ev : cDm N mt (f + 1) n (rDt z) = (vof 5 (nI (mt.idxOf (nCn N n))), rDt z) := if_pos c5
      rw [ev] at hq
      simp only [c5, not_true_eq_false, false_imp_iff, true_imp_iff, true_and]
      simp only [lv_args, z_v, z_lg, z_h, z_u, z_u1, z_c, z_ct, z_sk, sbne, lst1_d, ldel, lst2_d, ldel2, z_sw, z_rok, zi, eq_self, List.map_cons, List.map_nil, List.append_nil, List.nil_append, List.cons_append, Int32.reduceLT, Int32.reduceLE, Int32.reduceAdd, Int32.reduceSub, Int32.reduceMul, Int32.reduceToInt, Int32.reduceToNatClampNeg, Int.reduceLT, Int.reduceLE, Int.reduceNeg, true_and, and_true, or_self, or_false, false_or, false_and, and_false, true_or, or_true, if_true, if_false, ne_eq, Classical.not_not, not_true_eq_false, not_false_eq_true, true_implies, false_implies, implies_true, Nat.reduceEqDiff, Nat.reduceAdd, Nat.reduceLeDiff, Nat.reduceSub, reduceCtorEq, reduceIte, b9_24, skX s, srX s, h00, ej]
      refine sp_numberOf cc H hj ?_
      simp only [lv_args, z_v, z_lg, z_h, z_u, z_u1, z_c, z_ct, z_sk, sbne, lst1_d, ldel, lst2_d, ldel2, z_sw, z_rok, zi, eq_self, List.map_cons, List.map_nil, List.append_nil, List.nil_append, List.cons_append, Int32.reduceLT, Int32.reduceLE, Int32.reduceAdd, Int32.reduceSub, Int32.reduceMul, Int32.reduceToInt, Int32.reduceToNatClampNeg, Int.reduceLT, Int.reduceLE, Int.reduceNeg, true_and, and_true, or_self, or_false, false_or, false_and, and_false, true_or, or_true, if_true, if_false, ne_eq, Classical.not_not, not_true_eq_false, not_false_eq_true, true_implies, false_implies, implies_true, Nat.reduceEqDiff, Nat.reduceAdd, Nat.reduceLeDiff, Nat.reduceSub, reduceCtorEq, reduceIte, b9_24, skX s, h00, e157v, Nat.reduceLT]
      exact hq _ h H (fun _ => by rw [ej2])
    · have c5' : ¬ nK N n = 5 := c5
      simp only [c5', not_false_eq_true, false_imp_iff, true_imp_iff, and_true]
      by_cases c6 : nK N n = 6
      · simp only [lv_args, z_v, z_lg, z_h, z_u, z_u1, z_c, z_ct, z_sk, sbne, lst1_d, ldel, lst2_d, ldel2, z_sw, z_rok, zi, eq_self, List.map_cons, List.map_nil, List.append_nil, List.nil_append, List.cons_append, Int32.reduceLT, Int32.reduceLE, Int32.reduceAdd, Int32.reduceSub, Int32.reduceMul, Int32.reduceToInt, Int32.reduceToNatClampNeg, Int.reduceLT, Int.reduceLE, Int.reduceNeg, true_and, and_true, or_self, or_false, false_or, false_and, and_false, true_or, or_true, if_true, if_false, ne_eq, Classical.not_not, not_true_eq_false, not_false_eq_true, true_implies, false_implies, implies_true, Nat.reduceEqDiff, Nat.reduceAdd, Nat.reduceLeDiff, Nat.reduceSub, reduceCtorEq, reduceIte, b9_41, c6]
        sorry
      · have ev : cDm N mt (f + 1) n (rDt z) = (vof (nK N n) (nC N n), rDt z) := (if_neg c5).trans (if_pos c6)
        rw [ev] at hq
        have c6' : ¬ nK N n = 6 := c6
        simp only [lv_args, z_v, z_lg, z_h, z_u, z_u1, z_c, z_ct, z_sk, sbne, lst1_d, ldel, lst2_d, ldel2, z_sw, z_rok, zi, eq_self, List.map_cons, List.map_nil, List.append_nil, List.nil_append, List.cons_append, Int32.reduceLT, Int32.reduceLE, Int32.reduceAdd, Int32.reduceSub, Int32.reduceMul, Int32.reduceToInt, Int32.reduceToNatClampNeg, Int.reduceLT, Int.reduceLE, Int.reduceNeg, true_and, and_true, or_self, or_false, false_or, false_and, and_false, true_or, or_true, if_true, if_false, ne_eq, Classical.not_not, not_true_eq_false, not_false_eq_true, true_implies, false_implies, implies_true, Nat.reduceEqDiff, Nat.reduceAdd, Nat.reduceLeDiff, Nat.reduceSub, reduceCtorEq, reduceIte, b9_41, c6', not_false_eq_true, false_imp_iff, true_imp_iff, and_true, true_and]
        simp only [lv_args, z_v, z_lg, z_h, z_u, z_u1, z_c, z_ct, z_sk, sbne, lst1_d, ldel, lst2_d, ldel2, z_sw, z_rok, zi, eq_self, List.map_cons, List.map_nil, List.append_nil, List.nil_append, List.cons_append, Int32.reduceLT, Int32.reduceLE, Int32.reduceAdd, Int32.reduceSub, Int32.reduceMul, Int32.reduceToInt, Int32.reduceToNatClampNeg, Int.reduceLT, Int.reduceLE, Int.reduceNeg, true_and, and_true, or_self, or_false, false_or, false_and, and_false, true_or, or_true, if_true, if_false, ne_eq, Classical.not_not, not_true_eq_false, not_false_eq_true, true_implies, false_implies, implies_true, Nat.reduceEqDiff, Nat.reduceAdd, Nat.reduceLeDiff, Nat.reduceSub, reduceCtorEq, reduceIte, b9_47, skX s, h00, e157v, Nat.reduceLT]
        exact hq _ h H (fun _ => rfl)
end CDQ
