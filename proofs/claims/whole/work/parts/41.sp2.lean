/-! SPECS: Arrays.copyOf, Rows.withRoom -/
theorem nI_small {n : Nat} (h : n ≤ 60000000) : (nI n).toInt = (n : Int) ∧ (nI n).toNatClampNeg = n := ⟨nI_toInt (by omega), nI_clamp (by omega)⟩
/-- the new row behind Arrays.copyOf to a length that is another one -/
def cpI (h : Hp) (k n : Nat) : Hp := pA (nA h 14 n) (hn h) (va_cpy (hA h k) (fun _ => 0) 0 0 (min (hN h k) n))
theorem sp_copyI {d : Nat} (hd : 1 ≤ d) {h : Hp} {k n : Nat} {Q : Option Value → Hp → Prop} (hk : hK h k = 14) (hkn : k < hn h) (hsb : hn h < SB) (hn0 : n ≤ 60000000) (hl : hN h k ≤ 60000000) (hne : ¬ n = hN h k) (hq : Q (some (.ref (hn h))) (cpI h k n)) : aEv d 279 [.ref k, .int (nI n)] h Q := by
  have h0 : 0 < d := hd
  obtain ⟨n1, n2⟩ := nI_small hn0
  obtain ⟨l1, l2⟩ := nI_small hl
  have hnn : ¬ nI n = nI (hN h k) := fun e => hne ((nI_eq (by omega) (by omega)).mp e)
  have kne : (k = hn h) = False := eq_false (Nat.ne_of_lt hkn)
  unfold aEv
  simp only [lv_args, z_v, Nat.reduceEqDiff, if_false, Nat.reduceAdd]
  simp only [b279_0, z_v, z_lg, z_h, hk, true_and, and_true, Nat.reduceEqDiff, Nat.reduceLeDiff, ne_eq, hnn, not_false_eq_true, true_implies, not_true_eq_false, false_implies]
  simp only [b279_14, z_v, z_lg, lst1_d, ldel, z_h, z_u1, hk, kne, if_false, n1, n2, hsb, h0, z_c, true_and, and_true, Nat.reduceEqDiff, Nat.reduceLeDiff, Nat.reduceAdd, or_self, false_and, or_false]
  refine ⟨⟨by omega, by omega⟩, sp_min ?_⟩
  simp only [z_ct, true_or, true_and]
  have hmin : (if nI n < nI (hN h k) then nI n else nI (hN h k)) = nI (min (hN h k) n) := by
    by_cases e : n < hN h k
    · rw [if_pos ((nI_ltI (by omega) (by omega)).mpr e), Nat.min_eq_right (by omega)]
    · rw [if_neg (fun z => e ((nI_ltI (by omega) (by omega)).mp z)), Nat.min_eq_left (by omega)]
  rw [hmin]
  obtain ⟨m1, m2⟩ := nI_small (n := min (hN h k) n) (by omega)
  have kne' : k ≠ hn h := Nat.ne_of_lt hkn
  have z0 : (0 : Int32).toInt = 0 := by decide
  have z1 : (0 : Int32).toNatClampNeg = 0 := by decide
  have ka : hK (nA h 14 n) k = 14 := (up1_ne kne').trans hk
  have kb : hK (nA h 14 n) (hn h) = 14 := up1_eq
  refine (k_acp mm_279 dJ7_copyOf_59c91_28 ml_14_150 ka kb (Or.inl rfl) kne').mpr ⟨⟨h0, by rw [z0]; omega, by rw [z0]; omega, by rw [m1]; omega, ?_, ?_, ?_⟩, ?_⟩
  · rw [z0, m1, show hN (nA h 14 n) k = hN h k from up1_ne kne']; omega
  · rw [z0, m1, show hN (nA h 14 n) (hn h) = n from up1_eq]; omega
  · simp only [z_c]; omega
  · rw [if_pos rfl, z1, m2, show hA (nA h 14 n) k = hA h k from up1_ne kne', show hA (nA h 14 n) (hn h) = (fun _ => 0) from up1_eq]
    simp only [Nat.reduceAdd, b279_14, z_v, z_lg, true_and, Nat.reduceEqDiff]
    exact hq
/-- Rows.withRoom: the row itself, or a new one, twice as long or as long as wanted -/
theorem sp_roomI {d : Nat} (hd : 2 ≤ d) {h : Hp} {k n : Nat} {Q : Option Value → Hp → Prop} (hk : hK h k = 14) (hkn : k < hn h) (hsb : hn h < SB) (hn0 : n ≤ 30000000) (hl : hN h k ≤ 30000000) (h1 : n ≤ hN h k → Q (some (.ref k)) h) (h2 : hN h k < n → Q (some (.ref (hn h))) (cpI h k (max n (2 * hN h k)))) : aEv d 139 [.ref k, .int (nI n)] h Q := by
  have h0 : 0 < d := by omega
  unfold aEv
  simp only [lv_args, z_v, Nat.reduceEqDiff, if_false, Nat.reduceAdd]
  simp only [b139_0, b139_6, b139_10, b139_22, z_v, z_lg, z_h, z_c, hk, h0, true_and, and_true, Nat.reduceEqDiff, Nat.reduceLeDiff, Nat.reduceAdd]
  refine ⟨fun e => ?_, fun e => ?_⟩
  · have e2 : hN h k < n := (nI_ltI (by omega) (by omega)).mp e
    refine sp_max ?_
    simp only [z_ct, true_or, true_and]
    have hm : (if nI n < 2 * nI (hN h k) then 2 * nI (hN h k) else nI n) = nI (max n (2 * hN h k)) := by
      have h2n : (2 : Int32) * nI (hN h k) = nI (2 * hN h k) := by
        have : (2 : Int32) = nI 2 := by decide
        rw [this, pk_mul]
      rw [h2n]
      by_cases z : n < 2 * hN h k
      · rw [if_pos ((nI_ltI (by omega) (by omega)).mpr z), Nat.max_eq_right (by omega)]
      · rw [if_neg (fun q => z ((nI_ltI (by omega) (by omega)).mp q)), Nat.max_eq_left (by omega)]
    rw [hm]
    simp only [Nat.reduceAdd, b139_10, z_v, z_lg, z_h, z_c, hk, h0, true_and, and_true, Nat.reduceEqDiff, Nat.reduceLeDiff, Nat.reduceAdd]
    refine sp_copyI (by omega) hk hkn hsb (by omega) (by omega) (by omega) ?_
    simp only [z_ct, Nat.reduceAdd]
    refine ⟨Or.inl rfl, ?_⟩
    simp only [b139_22, b139_10]
    exact h2 e2
  · have e2 : n ≤ hN h k := Nat.not_lt.mp fun z => e ((nI_ltI (by omega) (by omega)).mpr z)
    exact h1 e2
/-- the new row behind Arrays.copyOf to a length that is another one -/
def cpJ (h : Hp) (k n : Nat) : Hp := pB (nA h 15 n) (hn h) (va_cpy (hB h k) (fun _ => 0) 0 0 (min (hN h k) n))
theorem sp_copyJ {d : Nat} (hd : 1 ≤ d) {h : Hp} {k n : Nat} {Q : Option Value → Hp → Prop} (hk : hK h k = 15) (hkn : k < hn h) (hsb : hn h < SB) (hn0 : n ≤ 60000000) (hl : hN h k ≤ 60000000) (hne : ¬ n = hN h k) (hq : Q (some (.ref (hn h))) (cpJ h k n)) : aEv d 280 [.ref k, .int (nI n)] h Q := by
  have h0 : 0 < d := hd
  obtain ⟨n1, n2⟩ := nI_small hn0
  obtain ⟨l1, l2⟩ := nI_small hl
  have hnn : ¬ nI n = nI (hN h k) := fun e => hne ((nI_eq (by omega) (by omega)).mp e)
  have kne : (k = hn h) = False := eq_false (Nat.ne_of_lt hkn)
  unfold aEv
  simp only [lv_args, z_v, Nat.reduceEqDiff, if_false, Nat.reduceAdd]
  simp only [b280_0, z_v, z_lg, z_h, hk, true_and, and_true, Nat.reduceEqDiff, Nat.reduceLeDiff, ne_eq, hnn, not_false_eq_true, true_implies, not_true_eq_false, false_implies]
  simp only [b280_14, z_v, z_lg, lst1_d, ldel, z_h, z_u1, hk, kne, if_false, n1, n2, hsb, h0, z_c, true_and, and_true, Nat.reduceEqDiff, Nat.reduceLeDiff, Nat.reduceAdd, or_self, false_and, or_false]
  refine ⟨⟨by omega, by omega⟩, sp_min ?_⟩
  simp only [z_ct, true_or, true_and]
  have hmin : (if nI n < nI (hN h k) then nI n else nI (hN h k)) = nI (min (hN h k) n) := by
    by_cases e : n < hN h k
    · rw [if_pos ((nI_ltI (by omega) (by omega)).mpr e), Nat.min_eq_right (by omega)]
    · rw [if_neg (fun z => e ((nI_ltI (by omega) (by omega)).mp z)), Nat.min_eq_left (by omega)]
  rw [hmin]
  obtain ⟨m1, m2⟩ := nI_small (n := min (hN h k) n) (by omega)
  have kne' : k ≠ hn h := Nat.ne_of_lt hkn
  have z0 : (0 : Int32).toInt = 0 := by decide
  have z1 : (0 : Int32).toNatClampNeg = 0 := by decide
  have ka : hK (nA h 15 n) k = 15 := (up1_ne kne').trans hk
  have kb : hK (nA h 15 n) (hn h) = 15 := up1_eq
  refine (k_acp mm_280 dJ7_copyOf_c38d5_28 ml_14_150 ka kb (Or.inr rfl) kne').mpr ⟨⟨h0, by rw [z0]; omega, by rw [z0]; omega, by rw [m1]; omega, ?_, ?_, ?_⟩, ?_⟩
  · rw [z0, m1, show hN (nA h 15 n) k = hN h k from up1_ne kne']; omega
  · rw [z0, m1, show hN (nA h 15 n) (hn h) = n from up1_eq]; omega
  · simp only [z_c]; omega
  · rw [if_neg (by decide), z1, m2, show hB (nA h 15 n) k = hB h k from up1_ne kne', show hB (nA h 15 n) (hn h) = (fun _ => 0) from up1_eq]
    simp only [Nat.reduceAdd, b280_14, z_v, z_lg, true_and, Nat.reduceEqDiff]
    exact hq
/-- Rows.withRoom: the row itself, or a new one, twice as long or as long as wanted -/
theorem sp_roomJ {d : Nat} (hd : 2 ≤ d) {h : Hp} {k n : Nat} {Q : Option Value → Hp → Prop} (hk : hK h k = 15) (hkn : k < hn h) (hsb : hn h < SB) (hn0 : n ≤ 30000000) (hl : hN h k ≤ 30000000) (h1 : n ≤ hN h k → Q (some (.ref k)) h) (h2 : hN h k < n → Q (some (.ref (hn h))) (cpJ h k (max n (2 * hN h k)))) : aEv d 140 [.ref k, .int (nI n)] h Q := by
  have h0 : 0 < d := by omega
  unfold aEv
  simp only [lv_args, z_v, Nat.reduceEqDiff, if_false, Nat.reduceAdd]
  simp only [b140_0, b140_6, b140_10, b140_22, z_v, z_lg, z_h, z_c, hk, h0, true_and, and_true, Nat.reduceEqDiff, Nat.reduceLeDiff, Nat.reduceAdd]
  refine ⟨fun e => ?_, fun e => ?_⟩
  · have e2 : hN h k < n := (nI_ltI (by omega) (by omega)).mp e
    refine sp_max ?_
    simp only [z_ct, true_or, true_and]
    have hm : (if nI n < 2 * nI (hN h k) then 2 * nI (hN h k) else nI n) = nI (max n (2 * hN h k)) := by
      have h2n : (2 : Int32) * nI (hN h k) = nI (2 * hN h k) := by
        have : (2 : Int32) = nI 2 := by decide
        rw [this, pk_mul]
      rw [h2n]
      by_cases z : n < 2 * hN h k
      · rw [if_pos ((nI_ltI (by omega) (by omega)).mpr z), Nat.max_eq_right (by omega)]
      · rw [if_neg (fun q => z ((nI_ltI (by omega) (by omega)).mp q)), Nat.max_eq_left (by omega)]
    rw [hm]
    simp only [Nat.reduceAdd, b140_10, z_v, z_lg, z_h, z_c, hk, h0, true_and, and_true, Nat.reduceEqDiff, Nat.reduceLeDiff, Nat.reduceAdd]
    refine sp_copyJ (by omega) hk hkn hsb (by omega) (by omega) (by omega) ?_
    simp only [z_ct, Nat.reduceAdd]
    refine ⟨Or.inl rfl, ?_⟩
    simp only [b140_22, b140_10]
    exact h2 e2
  · have e2 : n ≤ hN h k := Nat.not_lt.mp fun z => e ((nI_ltI (by omega) (by omega)).mpr z)
    exact h1 e2
/-- what `row = Rows.withRoom(row, n)` makes of the heap: the row keeps its place -/
def rmJ (h : Hp) (f n : Nat) : Hp := if n ≤ hN h f then h else nS (cpJ h f (max n (2 * hN h f))) f (hn h)
theorem grow_J {d mi pc : Nat} {L : ALS} {st : List Value} {h : Hp} {Q : Option Value → Hp → Prop} {x : MI} (hx : mInfo mi = some x) {i1 i2 ci j k f n : Nat} (hd1 : decode x.2.1 pc = .ok (.invokestatic i1, 3)) (hm : mlk x.2.2.2.2.1 i1 = some 140) (hd2 : decode x.2.1 (pc + 3) = .ok (.putfield i2, 3)) (hf : fl x.2.2.2.2.1 i2 = some (ci, j)) (ht : ftk (tyOf ci j) = 3) (hfin : finOK x ci j)
    (hd : 3 ≤ d) (hcat : catS st ≤ 7) (hk : hK h k = ci) (hkn : k < hn h) (hr : hR h k j = some f) (hf15 : hK h f = 15) (hfn : f < hn h) (hsb : hn h < SB) (hcl : ∀ a b, hR h a b ≠ some (hn h)) (huq : ∀ a b, hR h a b = some f → a = k ∧ b = j) (hL : ∀ z ∈ L, z.2 ≠ .ref f ∧ z.2 ≠ .ref (hn h)) (hst : ∀ z ∈ st, z ≠ .ref f ∧ z ≠ .ref (hn h)) (hn0 : n ≤ 30000000) (hl : hN h f ≤ 30000000)
    (kk : aWP d mi (pc + 6) L st (rmJ h f n) Q) : aWP d mi pc L (.int (nI n) :: .ref f :: .ref k :: st) h Q := by
  have h0 : 0 < d := by omega
  have hc2 : catS (.ref k :: st) = 1 + catS st := z_c.2.2.2 k st
  refine (k_callS hx hd1 hm mc_140 rfl [.ref f, .int (nI n)] rfl rfl (Bool.and_false _)).mpr ⟨⟨h0, by omega, by simp only [z_c]; omega⟩, ?_⟩
  unfold rmJ at kk
  refine sp_roomJ (by omega) hf15 hfn hsb hn0 hl (fun e => ?_) (fun e => ?_)
  · rw [if_pos e] at kk
    refine ((z_ct d mi (pc + 3) L (.ref k :: st) h h Q).2.2.2 f).mpr ⟨Or.inl rfl, ?_⟩
    refine (k_putO hx hd2 hf ht hfin hr (fun z => z.1 rfl)).mpr ⟨⟨hk, by omega⟩, ?_⟩
    have hsame : pR h k j (some f) = h := by
      have e3 : up2 (hR h) k j (some f) = hR h := by
        funext a b
        unfold up2
        split
        · rename_i e2; rw [e2.1, e2.2, hr]
        · rfl
      show (h.1, h.2.1, h.2.2.1, up2 (hR h) k j (some f), h.2.2.2.2) = h
      rw [e3]; rfl
    rw [hsame]
    exact kk
  · rw [if_neg (by omega)] at kk
    refine ((z_ct d mi (pc + 3) L (.ref k :: st) h (cpJ h f (max n (2 * hN h f))) Q).2.2.2 (hn h)).mpr ⟨Or.inl rfl, ?_⟩
    have hfne : f ≠ hn h := Nat.ne_of_lt hfn
    have hKf : hK (cpJ h f (max n (2 * hN h f))) f = 15 := (up1_ne hfne).trans hf15
    have hKq : hK (cpJ h f (max n (2 * hN h f))) (hn h) = 15 := up1_eq
    have hKk : hK (cpJ h f (max n (2 * hN h f))) k = ci := (up1_ne (Nat.ne_of_lt hkn)).trans hk
    have hsw : swOK (cpJ h f (max n (2 * hN h f))) L st k j f (hn h) := ⟨hfne, hKf.trans hKq.symm, by rw [hKf]; decide, hcl, huq, fun z hz => (hL z hz).1, fun z hz => (hst z hz).1⟩
    refine (k_putS hx hd2 hf ht hfin (show hR (cpJ h f (max n (2 * hN h f))) k j = some f from hr) hsw).mpr ⟨⟨hKk, hsb⟩, ?_⟩
    have e1 : L.map (fun x => (x.1, rnm f (hn h) x.2)) = L := by
      refine (List.map_congr_left fun z hz => ?_).trans (List.map_id L)
      show (z.1, rnm f (hn h) z.2) = z
      unfold rnm
      rw [if_neg (hL z hz).2]
    have e2 : st.map (rnm f (hn h)) = st := by
      refine (List.map_congr_left fun z hz => ?_).trans (List.map_id st)
      unfold rnm
      rw [if_neg (hst z hz).2]
      rfl
    rw [e1, e2]
    exact kk
/-- what `row = Rows.withRoom(row, n)` makes of the heap: the row keeps its place -/
def rmI (h : Hp) (f n : Nat) : Hp := if n ≤ hN h f then h else nS (cpI h f (max n (2 * hN h f))) f (hn h)
theorem grow_I {d mi pc : Nat} {L : ALS} {st : List Value} {h : Hp} {Q : Option Value → Hp → Prop} {x : MI} (hx : mInfo mi = some x) {i1 i2 ci j k f n : Nat} (hd1 : decode x.2.1 pc = .ok (.invokestatic i1, 3)) (hm : mlk x.2.2.2.2.1 i1 = some 139) (hd2 : decode x.2.1 (pc + 3) = .ok (.putfield i2, 3)) (hf : fl x.2.2.2.2.1 i2 = some (ci, j)) (ht : ftk (tyOf ci j) = 3) (hfin : finOK x ci j)
    (hd : 3 ≤ d) (hcat : catS st ≤ 7) (hk : hK h k = ci) (hkn : k < hn h) (hr : hR h k j = some f) (hf14 : hK h f = 14) (hfn : f < hn h) (hsb : hn h < SB) (hcl : ∀ a b, hR h a b ≠ some (hn h)) (huq : ∀ a b, hR h a b = some f → a = k ∧ b = j) (hL : ∀ z ∈ L, z.2 ≠ .ref f ∧ z.2 ≠ .ref (hn h)) (hst : ∀ z ∈ st, z ≠ .ref f ∧ z ≠ .ref (hn h)) (hn0 : n ≤ 30000000) (hl : hN h f ≤ 30000000)
    (kk : aWP d mi (pc + 6) L st (rmI h f n) Q) : aWP d mi pc L (.int (nI n) :: .ref f :: .ref k :: st) h Q := by
  have h0 : 0 < d := by omega
  have hc2 : catS (.ref k :: st) = 1 + catS st := z_c.2.2.2 k st
  refine (k_callS hx hd1 hm mc_139 rfl [.ref f, .int (nI n)] rfl rfl (Bool.and_false _)).mpr ⟨⟨h0, by omega, by simp only [z_c]; omega⟩, ?_⟩
  unfold rmI at kk
  refine sp_roomI (by omega) hf14 hfn hsb hn0 hl (fun e => ?_) (fun e => ?_)
  · rw [if_pos e] at kk
    refine ((z_ct d mi (pc + 3) L (.ref k :: st) h h Q).2.2.2 f).mpr ⟨Or.inl rfl, ?_⟩
    refine (k_putO hx hd2 hf ht hfin hr (fun z => z.1 rfl)).mpr ⟨⟨hk, by omega⟩, ?_⟩
    have hsame : pR h k j (some f) = h := by
      have e3 : up2 (hR h) k j (some f) = hR h := by
        funext a b
        unfold up2
        split
        · rename_i e2; rw [e2.1, e2.2, hr]
        · rfl
      show (h.1, h.2.1, h.2.2.1, up2 (hR h) k j (some f), h.2.2.2.2) = h
      rw [e3]; rfl
    rw [hsame]
    exact kk
  · rw [if_neg (by omega)] at kk
    refine ((z_ct d mi (pc + 3) L (.ref k :: st) h (cpI h f (max n (2 * hN h f))) Q).2.2.2 (hn h)).mpr ⟨Or.inl rfl, ?_⟩
    have hfne : f ≠ hn h := Nat.ne_of_lt hfn
    have hKf : hK (cpI h f (max n (2 * hN h f))) f = 14 := (up1_ne hfne).trans hf14
    have hKq : hK (cpI h f (max n (2 * hN h f))) (hn h) = 14 := up1_eq
    have hKk : hK (cpI h f (max n (2 * hN h f))) k = ci := (up1_ne (Nat.ne_of_lt hkn)).trans hk
    have hsw : swOK (cpI h f (max n (2 * hN h f))) L st k j f (hn h) := ⟨hfne, hKf.trans hKq.symm, by rw [hKf]; decide, hcl, huq, fun z hz => (hL z hz).1, fun z hz => (hst z hz).1⟩
    refine (k_putS hx hd2 hf ht hfin (show hR (cpI h f (max n (2 * hN h f))) k j = some f from hr) hsw).mpr ⟨⟨hKk, hsb⟩, ?_⟩
    have e1 : L.map (fun x => (x.1, rnm f (hn h) x.2)) = L := by
      refine (List.map_congr_left fun z hz => ?_).trans (List.map_id L)
      show (z.1, rnm f (hn h) z.2) = z
      unfold rnm
      rw [if_neg (hL z hz).2]
    have e2 : st.map (rnm f (hn h)) = st := by
      refine (List.map_congr_left fun z hz => ?_).trans (List.map_id st)
      unfold rnm
      rw [if_neg (hst z hz).2]
      rfl
    rw [e1, e2]
    exact kk
/-- the heap behind a growth, read -/
theorem rmJ_r (h : Hp) (f n : Nat) (hfn : f < hn h) : hR (rmJ h f n) = hR h ∧ hI (rmJ h f n) = hI h ∧ hL (rmJ h f n) = hL h ∧ (∀ a, a < hn h → hK (rmJ h f n) a = hK h a) ∧ (∀ a, a < hn h → a ≠ f → hA (rmJ h f n) a = hA h a ∧ hB (rmJ h f n) a = hB h a ∧ hN (rmJ h f n) a = hN h a) ∧ (∀ i, i < hN h f → hB (rmJ h f n) f i = hB h f i) ∧ n ≤ hN (rmJ h f n) f ∧ hN h f ≤ hN (rmJ h f n) f ∧ hN (rmJ h f n) f = (if n ≤ hN h f then hN h f else max n (2 * hN h f)) ∧ hn (rmJ h f n) = (if n ≤ hN h f then hn h else hn h + 1) ∧ hu (rmJ h f n) = (if n ≤ hN h f then hu h else hu h + max n (2 * hN h f)) := by
  have hfne : f ≠ hn h := Nat.ne_of_lt hfn
  by_cases e : n ≤ hN h f
  · have er : rmJ h f n = h := if_pos e
    rw [er, if_pos e, if_pos e, if_pos e]
    exact ⟨rfl, rfl, rfl, fun _ _ => rfl, fun _ _ _ => ⟨rfl, rfl, rfl⟩, fun _ _ => rfl, e, Nat.le_refl _, rfl, rfl, rfl⟩
  · have er : rmJ h f n = nS (cpJ h f (max n (2 * hN h f))) f (hn h) := if_neg e
    rw [er, if_neg e, if_neg e, if_neg e]
    have hB1 : hB (cpJ h f (max n (2 * hN h f))) (hn h) = va_cpy (hB h f) (fun _ => 0) 0 0 (min (hN h f) (max n (2 * hN h f))) := up1_eq
    have hN1 : hN (cpJ h f (max n (2 * hN h f))) (hn h) = max n (2 * hN h f) := up1_eq
    refine ⟨rfl, rfl, rfl, fun a ha => up1_ne (Nat.ne_of_lt ha), fun a ha haf => ⟨?_, ?_, ?_⟩, fun i hi => ?_, ?_, ?_, ?_, rfl, rfl⟩
    · show swp (hA (cpJ h f (max n (2 * hN h f)))) f (hn h) a = _
      rw [swp_o haf (Nat.ne_of_lt ha)]
      exact up1_ne (Nat.ne_of_lt ha)
    · show swp (hB (cpJ h f (max n (2 * hN h f)))) f (hn h) a = _
      rw [swp_o haf (Nat.ne_of_lt ha)]
      exact (up1_ne (Nat.ne_of_lt ha)).trans (up1_ne (Nat.ne_of_lt ha))
    · show swp (hN (cpJ h f (max n (2 * hN h f)))) f (hn h) a = _
      rw [swp_o haf (Nat.ne_of_lt ha)]
      exact up1_ne (Nat.ne_of_lt ha)
    · show swp (hB (cpJ h f (max n (2 * hN h f)))) f (hn h) f i = _
      rw [swp_k, hB1, pk_cpy_in (by omega) (by omega)]
      congr 1
      omega
    · show n ≤ swp (hN (cpJ h f (max n (2 * hN h f)))) f (hn h) f
      rw [swp_k, hN1]; omega
    · show hN h f ≤ swp (hN (cpJ h f (max n (2 * hN h f)))) f (hn h) f
      rw [swp_k, hN1]; omega
    · show swp (hN (cpJ h f (max n (2 * hN h f)))) f (hn h) f = _
      rw [swp_k, hN1]
/-- the heap behind a growth, read -/
theorem rmI_r (h : Hp) (f n : Nat) (hfn : f < hn h) : hR (rmI h f n) = hR h ∧ hI (rmI h f n) = hI h ∧ hL (rmI h f n) = hL h ∧ (∀ a, a < hn h → hK (rmI h f n) a = hK h a) ∧ (∀ a, a < hn h → a ≠ f → hB (rmI h f n) a = hB h a ∧ hA (rmI h f n) a = hA h a ∧ hN (rmI h f n) a = hN h a) ∧ (∀ i, i < hN h f → hA (rmI h f n) f i = hA h f i) ∧ n ≤ hN (rmI h f n) f ∧ hN h f ≤ hN (rmI h f n) f ∧ hN (rmI h f n) f = (if n ≤ hN h f then hN h f else max n (2 * hN h f)) ∧ hn (rmI h f n) = (if n ≤ hN h f then hn h else hn h + 1) ∧ hu (rmI h f n) = (if n ≤ hN h f then hu h else hu h + max n (2 * hN h f)) := by
  have hfne : f ≠ hn h := Nat.ne_of_lt hfn
  by_cases e : n ≤ hN h f
  · have er : rmI h f n = h := if_pos e
    rw [er, if_pos e, if_pos e, if_pos e]
    exact ⟨rfl, rfl, rfl, fun _ _ => rfl, fun _ _ _ => ⟨rfl, rfl, rfl⟩, fun _ _ => rfl, e, Nat.le_refl _, rfl, rfl, rfl⟩
  · have er : rmI h f n = nS (cpI h f (max n (2 * hN h f))) f (hn h) := if_neg e
    rw [er, if_neg e, if_neg e, if_neg e]
    have hA1 : hA (cpI h f (max n (2 * hN h f))) (hn h) = va_cpy (hA h f) (fun _ => 0) 0 0 (min (hN h f) (max n (2 * hN h f))) := up1_eq
    have hN1 : hN (cpI h f (max n (2 * hN h f))) (hn h) = max n (2 * hN h f) := up1_eq
    refine ⟨rfl, rfl, rfl, fun a ha => up1_ne (Nat.ne_of_lt ha), fun a ha haf => ⟨?_, ?_, ?_⟩, fun i hi => ?_, ?_, ?_, ?_, rfl, rfl⟩
    · show swp (hB (cpI h f (max n (2 * hN h f)))) f (hn h) a = _
      rw [swp_o haf (Nat.ne_of_lt ha)]
      exact up1_ne (Nat.ne_of_lt ha)
    · show swp (hA (cpI h f (max n (2 * hN h f)))) f (hn h) a = _
      rw [swp_o haf (Nat.ne_of_lt ha)]
      exact (up1_ne (Nat.ne_of_lt ha)).trans (up1_ne (Nat.ne_of_lt ha))
    · show swp (hN (cpI h f (max n (2 * hN h f)))) f (hn h) a = _
      rw [swp_o haf (Nat.ne_of_lt ha)]
      exact up1_ne (Nat.ne_of_lt ha)
    · show swp (hA (cpI h f (max n (2 * hN h f)))) f (hn h) f i = _
      rw [swp_k, hA1, pk_cpy_in (by omega) (by omega)]
      congr 1
      omega
    · show n ≤ swp (hN (cpI h f (max n (2 * hN h f)))) f (hn h) f
      rw [swp_k, hN1]; omega
    · show hN h f ≤ swp (hN (cpI h f (max n (2 * hN h f)))) f (hn h) f
      rw [swp_k, hN1]; omega
    · show swp (hN (cpI h f (max n (2 * hN h f)))) f (hn h) f = _
      rw [swp_k, hN1]
