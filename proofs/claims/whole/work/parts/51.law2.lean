
/-- what holds all through the law's frame -/
def LC (p : Program) (l : Launch) (s : State) (m : MethodId) (meth : Method) (c : Code) (D : va_G) (aS : Nat → Nat) (b L : Nat) (xs : Nat → Int32) : Prop :=
  Cx p s m #[Value.ref b] meth c D (fun q => s.heap.size ≤ q) s.heap lawMI ∧ l.stackTraces = false ∧ TXX aS (fun q => s.heap.size ≤ q) s s.heap ∧ va_X b L xs s s.heap ∧ b < s.heap.size ∧ L ≤ 3072
/-- a world in the law's frame -/
def LW (D : va_G) (s : State) (aS : Nat → Nat) (b a0 a9 : Nat) (i : Nat) (ls : Array Slot) (h : Hp) (ad : Nat → Nat) (cy : Nat → ClassId) (H : Heap) (locs : List Loc) : Prop :=
  Wd D s (fun q => s.heap.size ≤ q) s.heap ad cy h H locs ∧ (∀ k, SB ≤ k → ad k = aS k) ∧ lv_has ls 4 [(3, .int (nI i)), (2, .ref a9), (1, .ref a0), (0, .ref b)] ∧ ad 0 = a0 ∧ ad 59 = a9 ∧ hK h 0 = 10 ∧ hK h 59 = 12 ∧ i < 4000
section LAWW
variable {p : Program} {l : Launch} {e : Env} {s : State} {m : MethodId} {below : List Frame} {meth : Method} {c : Code} {H : Heap} {locs : List Loc} {Q : State → Prop}
variable {ls : Array Slot} {D : va_G} {ad : Nat → Nat} {cy : Nat → ClassId} {h : Hp} {aS : Nat → Nat} {b L : Nat} {xs : Nat → Int32} {a0 a9 i cells slots : Nat}
theorem law_ld (X : LC p l s m meth c D aS b L xs) (w : LW D s aS b a0 a9 i ls h ad cy H locs) (a k : Nat) (kI : Int) (hk : Int32.ofInt kI = nI k) (hk5 : k < 6) (hi : i + k < L) (d0 : decode cL_law a = .ok (.aload_n 0, 1)) (d1 : decode cL_law (a + 1) = .ok (.iload_n 3, 1)) (d2 : decode cL_law (a + 2) = .ok (.iconst kI, 1)) (d3 : decode cL_law (a + 3) = .ok (.iadd, 1)) (d4 : decode cL_law (a + 4) = .ok (.iaload, 1)) {rest : List Value}
    (kk : W p l e room_1 s m #[Value.ref b] below meth c H locs cells slots Q (F0 m (a + 5) ls (.int (xs (i + k)) :: rest))) : W p l e room_1 s m #[Value.ref b] below meth c H locs cells slots Q (F0 m a ls rest) := by
  obtain ⟨C, hl0, hTX, hXs, hbl, hL⟩ := X
  obtain ⟨hw, hs, hl, -, -, -, -, hi4⟩ := w
  have hx := C.1
  have hb := C.2.1
  refine lv_aload_n hx hb d0 rfl (lv_at hl 3 rfl) ?_
  refine lv_iload_n hx hb d1 rfl (lv_at hl 0 rfl) ?_
  refine lv_iconst hx hb (v := nI k) d2 hk ?_
  refine lv_iadd hx hb d3 ?_
  rw [nI_add]
  refine va_sld hx hb hXs hbl (Nat.not_le.mpr hbl) hw.2.2.1 (i := nI (i + k)) (fun q => q.elim (nI_pos (by omega)) (fun z => by rw [nI_clamp (by omega)] at z; omega)) d4 ?_
  rw [nI_clamp (by omega)]
  exact kk
theorem LW.go (w : LW D s aS b a0 a9 i ls h ad cy H locs) {h1 : Hp} {ad1 : Nat → Nat} {cy1 : Nat → ClassId} {H1 : Heap} {locs1 : List Loc} (hw1 : Wd D s (fun q => s.heap.size ≤ q) s.heap ad1 cy1 h1 H1 locs1) (hA : AdR h h1 ad ad1) (hm : Mono h h1) : LW D s aS b a0 a9 i ls h1 ad1 cy1 H1 locs1 := by
  obtain ⟨hw, hs, hl, q0, q9, k0, k9, hi⟩ := w
  have l0 : 0 < hn h := hOK_lt hw.2.2.2.2 (by omega)
  have l9 : 59 < hn h := hOK_lt hw.2.2.2.2 (by omega)
  exact ⟨hw1, fun k hk => (hA.2.2 k hk).trans (hs k hk), hl, (hA.2.1 0 l0 (by omega)).trans q0, (hA.2.1 59 l9 (by omega)).trans q9, (hm.2.2.2 0 l0).trans k0, (hm.2.2.2 59 l9).trans k9, hi⟩
theorem law_call (X : LC p l s m meth c D aS b L xs) (w : LW D s aS b a0 a9 i ls h ad cy H locs) {pc idx mj : Nat} {y : MI} (hdec : decode cL_law pc = .ok (.invokevirtual idx, 3)) (hmlk : mlk 16 idx = some mj) (hyc : mInfC mj = some y) (hkd : y.2.2.2.2.2.2 = 0) (As : List Value) (hAs : ∀ v ∈ As, ∃ z, v = .int z) {k ak : Nat} (hka : ad k = ak) (hk : hK h k = ciO y.2.2.2.2.1) (hk13 : ciO y.2.2.2.2.1 < 13) (hlen : As.length + 1 = y.2.2.2.2.2.1) (hml : As.length + 1 ≤ y.2.2.1) {rest : List Value} (hrest : ∀ v ∈ rest, ∃ z, v = .int z) (hcat : rest.length ≤ 4) {K : Option Value → Hp → Prop} (hE : aEv 1399 mj (.ref k :: As) h K) (hnt : ∀ r h1, K r h1 → ∃ z, r = some (.int z)) (hbd : ∀ r h1, K r h1 → hn h1 ≤ 601024 ∧ hu h1 ≤ 7293034)
    (kk : ∀ z h1 ad1 cy1 H1 locs1, K (some (.int z)) h1 → Mono h h1 → LW D s aS b a0 a9 i ls h1 ad1 cy1 H1 locs1 → W p l e room_1 s m #[Value.ref b] below meth c H1 locs1 (hn h1) (hu h1) Q (F0 m (pc + 3) ls (.int z :: rest))) : W p l e room_1 s m #[Value.ref b] below meth c H locs (hn h) (hu h) Q (F0 m pc ls (As.reverse ++ .ref ak :: rest)) := by
  obtain ⟨n, r, h1, hrn, hKK⟩ := hE
  obtain ⟨z, rfl⟩ := hnt _ _ hKK
  obtain ⟨b1, b2⟩ := hbd _ _ hKK
  have hm := rn_mono _ _ _ _ _ _ _ _ _ hrn
  have m1 := hm.1
  have m2 := hm.2.1
  have hint : ∀ (vs : List Value), (∀ v ∈ vs, ∃ z, v = .int z) → vs.map (cz ad) = vs := fun vs hvs => by
    have : vs.map (cz ad) = vs.map id := List.map_congr_left fun v hv => by obtain ⟨z, rfl⟩ := hvs v hv; rfl
    rw [this, List.map_id]
  have hcatI : ∀ (vs : List Value), (∀ v ∈ vs, ∃ z, v = .int z) → catS vs = vs.length := fun vs hvs => by
    induction vs with
    | nil => rfl
    | cons v t ih =>
      obtain ⟨z, rfl⟩ := hvs v List.mem_cons_self
      have := ih (fun v hv => hvs v (List.mem_cons_of_mem _ hv))
      have e : catS (.int z :: t) = 1 + catS t := by unfold catS; rw [List.map_cons, List.sum_cons]; rfl
      rw [e, this, List.length_cons]; omega
  have hst : okS (hn h) (As.reverse ++ .ref k :: rest) := fun v hv => by
    rcases List.mem_append.mp hv with q | q
    · obtain ⟨z, rfl⟩ := hAs v (List.mem_reverse.mp q); exact okv_int _ _
    · rcases List.mem_cons.mp q with q | q
      · subst q; intro q hq; cases hq; exact Or.inl (hOK_lt w.1.2.2.2.2 (by omega))
      · obtain ⟨z, rfl⟩ := hrest v q; exact okv_int _ _
  have htk : (As.reverse ++ .ref k :: rest).take y.2.2.2.2.2.1 = As.reverse ++ [.ref k] := by
    rw [← hlen, show As.reverse ++ Value.ref k :: rest = (As.reverse ++ [Value.ref k]) ++ rest by simp]
    exact List.take_left' (by simp)
  have hdr : (As.reverse ++ .ref k :: rest).drop y.2.2.2.2.2.1 = rest := by
    rw [← hlen, show As.reverse ++ Value.ref k :: rest = (As.reverse ++ [Value.ref k]) ++ rest by simp]
    exact List.drop_left' (by simp)
  have hrev : (As.reverse ++ [Value.ref k]).reverse = Value.ref k :: As := by simp
  have hc : cOK h 0 1400 y (As.reverse ++ .ref k :: rest) := by
    refine ⟨hkd.symm, by decide, by rw [← hlen]; simp, ?_, Or.inr ?_, ?_⟩
    · rw [hdr, hcatI _ hrest]; omega
    · have : (As.reverse ++ .ref k :: rest)[y.2.2.2.2.2.1 - 1]? = some (.ref k) := by
        rw [← hlen, List.getElem?_append_right (by rw [List.length_reverse]; omega), List.length_reverse]
        simp
      rw [this]
      show (hK h k == ciO y.2.2.2.2.1) = true
      rw [hk]; exact beq_self_eq_true _
    · rw [htk, hrev, lg_len]
      have e : catS (.ref k :: As) = 1 + catS As := by unfold catS; rw [List.map_cons, List.sum_cons]; rfl
      rw [e, hcatI _ hAs]; omega
  have hgo : As.reverse ++ .ref ak :: rest = (As.reverse ++ .ref k :: rest).map (cz ad) := by
    rw [List.map_append, List.map_cons, hint _ (fun v hv => hAs v (List.mem_reverse.mp hv)), hint _ hrest]
    show _ = As.reverse ++ .ref (ad k) :: rest
    rw [hka]
  rw [hgo]
  refine call_W (d := 1400) (snd_all (sxok aS) (txp aS) n) (txp aS) X.1 X.2.1 X.2.2.1 (by decide) (by decide) w.1 w.2.1 w.2.2.1.1 (i := .invokevirtual idx) (ck := 0) (idx := idx) rfl hdec hmlk hyc hc (by rw [htk, hrev]; exact hrn) rfl hst (by show hn h + _ ≤ 601024; omega) (by show hu h + _ ≤ 7293034; omega) (fun ad1 cy1 H1 locs1 hw1 hA1 hrv => ?_)
  have := kk z h1 ad1 cy1 H1 locs1 hKK hm (w.go hw1 hA1 hm)
  rw [show hn h + (hn h1 - hn h) = hn h1 by omega, show hu h + (hu h1 - hu h) = hu h1 by omega, hdr, hint _ hrest]
  exact this
/-- what a pair of calls owes: the class's answer is the reference's, and the world is in order again -/
def OpS (Inv : Nat → Hp → Prop) (mx mm n : Nat) : Prop := ∀ k h (As : List Value), k < 512 → Inv k h → As.length = n → (∀ v ∈ As, ∃ z, v = .int z) → aEv 1399 mx (.ref 0 :: As) h (fun r h1 => ∃ z, r = some (.int z) ∧ aEv 1399 mm (.ref 59 :: As) h1 (fun r2 h2 => r2 = some (.int z) ∧ Inv (k + 1) h2))
def InvB (Inv : Nat → Hp → Prop) : Prop := ∀ k h, Inv k h → hK h 0 = 10 ∧ hK h 59 = 12 ∧ hn h ≤ 601024 ∧ hu h ≤ 7293034
theorem op_bd {d mm : Nat} {vs : List Value} {h1 : Hp} {K : Option Value → Hp → Prop} {a b : Nat} (hE : aEv d mm vs h1 K) (hK : ∀ r h2, K r h2 → hn h2 ≤ a ∧ hu h2 ≤ b) : hn h1 ≤ a ∧ hu h1 ≤ b := by
  obtain ⟨n, r, h2, hrn, hk⟩ := hE
  have hm := rn_mono _ _ _ _ _ _ _ _ _ hrn
  obtain ⟨q1, q2⟩ := hK r h2 hk
  exact ⟨Nat.le_trans hm.1 q1, Nat.le_trans hm.2.1 q2⟩
variable {Inv : Nat → Hp → Prop} {kc : Nat}
theorem law_c0 (X : LC p l s m meth c D aS b L xs) (w : LW D s aS b a0 a9 i ls h ad cy H locs) (hi : i + 6 ≤ L) (hB : InvB Inv) (hO : OpS Inv 165 203 5) (hk : kc < 512) (hI : Inv kc h)
    (kk : ∀ h2 ad2 cy2 H2 locs2, Inv (kc + 1) h2 → LW D s aS b a0 a9 i ls h2 ad2 cy2 H2 locs2 → W p l e room_1 s m #[Value.ref b] below meth c H2 locs2 (hn h2) (hu h2) Q (F0 m 446 ls [])) : W p l e room_1 s m #[Value.ref b] below meth c H locs (hn h) (hu h) Q (F0 m 104 ls []) := by
  have hx := X.1.1
  have hb := X.1.2.1
  have hints : ∀ v ∈ ([.int (xs (i + 1)), .int (xs (i + 2)), .int (xs (i + 3)), .int (xs (i + 4)), .int (xs (i + 5))] : List Value), ∃ z, v = .int z := fun v hv => by
    simp only [List.mem_cons, List.not_mem_nil, or_false] at hv
    rcases hv with e | e | e | e | e <;> exact ⟨_, e⟩
  have hE := hO kc h [.int (xs (i + 1)), .int (xs (i + 2)), .int (xs (i + 3)), .int (xs (i + 4)), .int (xs (i + 5))] hk hI rfl hints
  refine lv_aload_n hx hb dL_law_104 rfl (lv_at w.2.2.1 2 rfl) ?_
  refine law_ld X w 105 1 1 (by decide) (by decide) (by omega) dL_law_105 dL_law_106 dL_law_107 dL_law_108 dL_law_109 ?_
  refine law_ld X w 110 2 2 (by decide) (by decide) (by omega) dL_law_110 dL_law_111 dL_law_112 dL_law_113 dL_law_114 ?_
  refine law_ld X w 115 3 3 (by decide) (by decide) (by omega) dL_law_115 dL_law_116 dL_law_117 dL_law_118 dL_law_119 ?_
  refine law_ld X w 120 4 4 (by decide) (by decide) (by omega) dL_law_120 dL_law_121 dL_law_122 dL_law_123 dL_law_124 ?_
  refine law_ld X w 125 5 5 (by decide) (by decide) (by omega) dL_law_125 dL_law_126 dL_law_127 dL_law_128 dL_law_129 ?_
  refine law_call X w dL_law_130 (mj := 165) (by decide +kernel) mc_165 rfl [.int (xs (i + 1)), .int (xs (i + 2)), .int (xs (i + 3)), .int (xs (i + 4)), .int (xs (i + 5))] hints (k := 0) w.2.2.2.1 w.2.2.2.2.2.1 (by decide) rfl (Nat.le_of_ble_eq_true rfl) (rest := []) (fun _ hv => by cases hv) (by decide) hE (fun r h1 q => ⟨q.choose, q.choose_spec.1⟩) (fun r h1 q => op_bd q.choose_spec.2 (fun r2 h2 z => ⟨(hB _ _ z.2).2.2.1, (hB _ _ z.2).2.2.2⟩)) (fun z h1 ad1 cy1 H1 locs1 hK hm w1 => ?_)
  obtain ⟨z', hz, hE2⟩ := hK
  cases hz
  refine lv_aload_n hx hb dL_law_133 rfl (lv_at w1.2.2.1 1 rfl) ?_
  refine law_ld X w1 134 1 1 (by decide) (by decide) (by omega) dL_law_134 dL_law_135 dL_law_136 dL_law_137 dL_law_138 ?_
  refine law_ld X w1 139 2 2 (by decide) (by decide) (by omega) dL_law_139 dL_law_140 dL_law_141 dL_law_142 dL_law_143 ?_
  refine law_ld X w1 144 3 3 (by decide) (by decide) (by omega) dL_law_144 dL_law_145 dL_law_146 dL_law_147 dL_law_148 ?_
  refine law_ld X w1 149 4 4 (by decide) (by decide) (by omega) dL_law_149 dL_law_150 dL_law_151 dL_law_152 dL_law_153 ?_
  refine law_ld X w1 154 5 5 (by decide) (by decide) (by omega) dL_law_154 dL_law_155 dL_law_156 dL_law_157 dL_law_158 ?_
  refine law_call X w1 dL_law_159 (mj := 203) (by decide +kernel) mc_203 rfl [.int (xs (i + 1)), .int (xs (i + 2)), .int (xs (i + 3)), .int (xs (i + 4)), .int (xs (i + 5))] hints (k := 59) w1.2.2.2.2.1 w1.2.2.2.2.2.2.1 (by decide) rfl (Nat.le_of_ble_eq_true rfl) (rest := [.int z]) (fun v hv => ⟨z, by simpa using hv⟩) (Nat.le_of_ble_eq_true rfl) hE2 (fun r h2 q => ⟨z, q.1⟩) (fun r h2 q => ⟨(hB _ _ q.2).2.2.1, (hB _ _ q.2).2.2.2⟩) (fun z2 h2 ad2 cy2 H2 locs2 hK2 hm2 w2 => ?_)
  obtain ⟨hz2, hI2⟩ := hK2
  cases hz2
  refine lv_icmp_eq hx hb dL_law_162 (tgt := 446) (by decide) (fun _ => ?_) (fun q => absurd rfl q)
  exact kk h2 ad2 cy2 H2 locs2 hI2 w2
theorem law_c1 (X : LC p l s m meth c D aS b L xs) (w : LW D s aS b a0 a9 i ls h ad cy H locs) (hi : i + 6 ≤ L) (hB : InvB Inv) (hO : OpS Inv 161 290 1) (hk : kc < 512) (hI : Inv kc h)
    (kk : ∀ h2 ad2 cy2 H2 locs2, Inv (kc + 1) h2 → LW D s aS b a0 a9 i ls h2 ad2 cy2 H2 locs2 → W p l e room_1 s m #[Value.ref b] below meth c H2 locs2 (hn h2) (hu h2) Q (F0 m 446 ls [])) : W p l e room_1 s m #[Value.ref b] below meth c H locs (hn h) (hu h) Q (F0 m 167 ls []) := by
  have hx := X.1.1
  have hb := X.1.2.1
  have hints : ∀ v ∈ ([.int (xs (i + 1))] : List Value), ∃ z, v = .int z := fun v hv => by
    simp only [List.mem_cons, List.not_mem_nil, or_false] at hv
    exact ⟨_, hv⟩
  have hE := hO kc h [.int (xs (i + 1))] hk hI rfl hints
  refine lv_aload_n hx hb dL_law_167 rfl (lv_at w.2.2.1 2 rfl) ?_
  refine law_ld X w 168 1 1 (by decide) (by decide) (by omega) dL_law_168 dL_law_169 dL_law_170 dL_law_171 dL_law_172 ?_
  refine law_call X w dL_law_173 (mj := 161) (by decide +kernel) mc_161 rfl [.int (xs (i + 1))] hints (k := 0) w.2.2.2.1 w.2.2.2.2.2.1 (by decide) rfl (Nat.le_of_ble_eq_true rfl) (rest := []) (fun _ hv => by cases hv) (by decide) hE (fun r h1 q => ⟨q.choose, q.choose_spec.1⟩) (fun r h1 q => op_bd q.choose_spec.2 (fun r2 h2 z => ⟨(hB _ _ z.2).2.2.1, (hB _ _ z.2).2.2.2⟩)) (fun z h1 ad1 cy1 H1 locs1 hK hm w1 => ?_)
  obtain ⟨z', hz, hE2⟩ := hK
  cases hz
  refine lv_aload_n hx hb dL_law_176 rfl (lv_at w1.2.2.1 1 rfl) ?_
  refine law_ld X w1 177 1 1 (by decide) (by decide) (by omega) dL_law_177 dL_law_178 dL_law_179 dL_law_180 dL_law_181 ?_
  obtain ⟨n, r, h2, hrn, hz2, hI2⟩ := hE2
  subst hz2
  have hm2 := rn_mono _ _ _ _ _ _ _ _ _ hrn
  have m1 := hm2.1
  have m2 := hm2.2.1
  have hb2 := hB _ _ hI2
  have e9 := w1.2.2.2.2.1
  rw [← e9]
  refine call_B (d := 1400) (snd_all (sxok aS) (txp aS) n) (txp aS) X.1 X.2.1 X.2.2.1 (by decide) (by decide) (by decide) w1.1 w1.2.1 w1.2.2.1.1 (k := 59) (v := .int (xs (i + 1))) (rest := [.int z]) w1.2.2.2.2.2.2.1 rfl (okv_int _ _) (Nat.le_of_ble_eq_true rfl) dL_law_182 hrn rfl (by show hn h1 + _ ≤ 601024; omega) (by show hu h1 + _ ≤ 7293034; omega) (fun ad2 cy2 H2 locs2 hw2 hA2 _ => ?_)
  rw [show hn h1 + (hn h2 - hn h1) = hn h2 by omega, show hu h1 + (hu h2 - hu h1) = hu h2 by omega]
  have w2 := w1.go hw2 hA2 hm2
  refine lv_icmp_eq hx hb dL_law_185 (tgt := 446) (by decide) (fun _ => ?_) (fun q => absurd rfl q)
  exact kk h2 ad2 cy2 H2 locs2 hI2 w2
theorem law_c2 (X : LC p l s m meth c D aS b L xs) (w : LW D s aS b a0 a9 i ls h ad cy H locs) (hi : i + 6 ≤ L) (hB : InvB Inv) (hO : OpS Inv 164 202 1) (hk : kc < 512) (hI : Inv kc h)
    (kk : ∀ h2 ad2 cy2 H2 locs2, Inv (kc + 1) h2 → LW D s aS b a0 a9 i ls h2 ad2 cy2 H2 locs2 → W p l e room_1 s m #[Value.ref b] below meth c H2 locs2 (hn h2) (hu h2) Q (F0 m 446 ls [])) : W p l e room_1 s m #[Value.ref b] below meth c H locs (hn h) (hu h) Q (F0 m 190 ls []) := by
  have hx := X.1.1
  have hb := X.1.2.1
  have hints : ∀ v ∈ ([.int (xs (i + 1))] : List Value), ∃ z, v = .int z := fun v hv => by
    simp only [List.mem_cons, List.not_mem_nil, or_false] at hv
    exact ⟨_, hv⟩
  have hE := hO kc h [.int (xs (i + 1))] hk hI rfl hints
  refine lv_aload_n hx hb dL_law_190 rfl (lv_at w.2.2.1 2 rfl) ?_
  refine law_ld X w 191 1 1 (by decide) (by decide) (by omega) dL_law_191 dL_law_192 dL_law_193 dL_law_194 dL_law_195 ?_
  refine law_call X w dL_law_196 (mj := 164) (by decide +kernel) mc_164 rfl [.int (xs (i + 1))] hints (k := 0) w.2.2.2.1 w.2.2.2.2.2.1 (by decide) rfl (Nat.le_of_ble_eq_true rfl) (rest := []) (fun _ hv => by cases hv) (by decide) hE (fun r h1 q => ⟨q.choose, q.choose_spec.1⟩) (fun r h1 q => op_bd q.choose_spec.2 (fun r2 h2 z => ⟨(hB _ _ z.2).2.2.1, (hB _ _ z.2).2.2.2⟩)) (fun z h1 ad1 cy1 H1 locs1 hK hm w1 => ?_)
  obtain ⟨z', hz, hE2⟩ := hK
  cases hz
  refine lv_aload_n hx hb dL_law_199 rfl (lv_at w1.2.2.1 1 rfl) ?_
  refine law_ld X w1 200 1 1 (by decide) (by decide) (by omega) dL_law_200 dL_law_201 dL_law_202 dL_law_203 dL_law_204 ?_
  refine law_call X w1 dL_law_205 (mj := 202) (by decide +kernel) mc_202 rfl [.int (xs (i + 1))] hints (k := 59) w1.2.2.2.2.1 w1.2.2.2.2.2.2.1 (by decide) rfl (Nat.le_of_ble_eq_true rfl) (rest := [.int z]) (fun v hv => ⟨z, by simpa using hv⟩) (Nat.le_of_ble_eq_true rfl) hE2 (fun r h2 q => ⟨z, q.1⟩) (fun r h2 q => ⟨(hB _ _ q.2).2.2.1, (hB _ _ q.2).2.2.2⟩) (fun z2 h2 ad2 cy2 H2 locs2 hK2 hm2 w2 => ?_)
  obtain ⟨hz2, hI2⟩ := hK2
  cases hz2
  refine lv_icmp_eq hx hb dL_law_208 (tgt := 446) (by decide) (fun _ => ?_) (fun q => absurd rfl q)
  exact kk h2 ad2 cy2 H2 locs2 hI2 w2
theorem law_c3 (X : LC p l s m meth c D aS b L xs) (w : LW D s aS b a0 a9 i ls h ad cy H locs) (hi : i + 6 ≤ L) (hB : InvB Inv) (hO : OpS Inv 174 254 0) (hk : kc < 512) (hI : Inv kc h)
    (kk : ∀ h2 ad2 cy2 H2 locs2, Inv (kc + 1) h2 → LW D s aS b a0 a9 i ls h2 ad2 cy2 H2 locs2 → W p l e room_1 s m #[Value.ref b] below meth c H2 locs2 (hn h2) (hu h2) Q (F0 m 446 ls [])) : W p l e room_1 s m #[Value.ref b] below meth c H locs (hn h) (hu h) Q (F0 m 213 ls []) := by
  have hx := X.1.1
  have hb := X.1.2.1
  have hints : ∀ v ∈ ([] : List Value), ∃ z, v = .int z := fun v hv => by
    cases hv
  have hE := hO kc h [] hk hI rfl hints
  refine lv_aload_n hx hb dL_law_213 rfl (lv_at w.2.2.1 2 rfl) ?_
  refine law_call X w dL_law_214 (mj := 174) (by decide +kernel) mc_174 rfl [] hints (k := 0) w.2.2.2.1 w.2.2.2.2.2.1 (by decide) rfl (Nat.le_of_ble_eq_true rfl) (rest := []) (fun _ hv => by cases hv) (by decide) hE (fun r h1 q => ⟨q.choose, q.choose_spec.1⟩) (fun r h1 q => op_bd q.choose_spec.2 (fun r2 h2 z => ⟨(hB _ _ z.2).2.2.1, (hB _ _ z.2).2.2.2⟩)) (fun z h1 ad1 cy1 H1 locs1 hK hm w1 => ?_)
  obtain ⟨z', hz, hE2⟩ := hK
  cases hz
  refine lv_aload_n hx hb dL_law_217 rfl (lv_at w1.2.2.1 1 rfl) ?_
  refine law_call X w1 dL_law_218 (mj := 254) (by decide +kernel) mc_254 rfl [] hints (k := 59) w1.2.2.2.2.1 w1.2.2.2.2.2.2.1 (by decide) rfl (Nat.le_of_ble_eq_true rfl) (rest := [.int z]) (fun v hv => ⟨z, by simpa using hv⟩) (Nat.le_of_ble_eq_true rfl) hE2 (fun r h2 q => ⟨z, q.1⟩) (fun r h2 q => ⟨(hB _ _ q.2).2.2.1, (hB _ _ q.2).2.2.2⟩) (fun z2 h2 ad2 cy2 H2 locs2 hK2 hm2 w2 => ?_)
  obtain ⟨hz2, hI2⟩ := hK2
  cases hz2
  refine lv_icmp_eq hx hb dL_law_221 (tgt := 446) (by decide) (fun _ => ?_) (fun q => absurd rfl q)
  exact kk h2 ad2 cy2 H2 locs2 hI2 w2
theorem law_c4 (X : LC p l s m meth c D aS b L xs) (w : LW D s aS b a0 a9 i ls h ad cy H locs) (hi : i + 6 ≤ L) (hB : InvB Inv) (hO : OpS Inv 169 218 1) (hk : kc < 512) (hI : Inv kc h)
    (kk : ∀ h2 ad2 cy2 H2 locs2, Inv (kc + 1) h2 → LW D s aS b a0 a9 i ls h2 ad2 cy2 H2 locs2 → W p l e room_1 s m #[Value.ref b] below meth c H2 locs2 (hn h2) (hu h2) Q (F0 m 446 ls [])) : W p l e room_1 s m #[Value.ref b] below meth c H locs (hn h) (hu h) Q (F0 m 226 ls []) := by
  have hx := X.1.1
  have hb := X.1.2.1
  have hints : ∀ v ∈ ([.int (xs (i + 1))] : List Value), ∃ z, v = .int z := fun v hv => by
    simp only [List.mem_cons, List.not_mem_nil, or_false] at hv
    exact ⟨_, hv⟩
  have hE := hO kc h [.int (xs (i + 1))] hk hI rfl hints
  refine lv_aload_n hx hb dL_law_226 rfl (lv_at w.2.2.1 2 rfl) ?_
  refine law_ld X w 227 1 1 (by decide) (by decide) (by omega) dL_law_227 dL_law_228 dL_law_229 dL_law_230 dL_law_231 ?_
  refine law_call X w dL_law_232 (mj := 169) (by decide +kernel) mc_169 rfl [.int (xs (i + 1))] hints (k := 0) w.2.2.2.1 w.2.2.2.2.2.1 (by decide) rfl (Nat.le_of_ble_eq_true rfl) (rest := []) (fun _ hv => by cases hv) (by decide) hE (fun r h1 q => ⟨q.choose, q.choose_spec.1⟩) (fun r h1 q => op_bd q.choose_spec.2 (fun r2 h2 z => ⟨(hB _ _ z.2).2.2.1, (hB _ _ z.2).2.2.2⟩)) (fun z h1 ad1 cy1 H1 locs1 hK hm w1 => ?_)
  obtain ⟨z', hz, hE2⟩ := hK
  cases hz
  refine lv_aload_n hx hb dL_law_235 rfl (lv_at w1.2.2.1 1 rfl) ?_
  refine law_ld X w1 236 1 1 (by decide) (by decide) (by omega) dL_law_236 dL_law_237 dL_law_238 dL_law_239 dL_law_240 ?_
  refine law_call X w1 dL_law_241 (mj := 218) (by decide +kernel) mc_218 rfl [.int (xs (i + 1))] hints (k := 59) w1.2.2.2.2.1 w1.2.2.2.2.2.2.1 (by decide) rfl (Nat.le_of_ble_eq_true rfl) (rest := [.int z]) (fun v hv => ⟨z, by simpa using hv⟩) (Nat.le_of_ble_eq_true rfl) hE2 (fun r h2 q => ⟨z, q.1⟩) (fun r h2 q => ⟨(hB _ _ q.2).2.2.1, (hB _ _ q.2).2.2.2⟩) (fun z2 h2 ad2 cy2 H2 locs2 hK2 hm2 w2 => ?_)
  obtain ⟨hz2, hI2⟩ := hK2
  cases hz2
  refine lv_icmp_eq hx hb dL_law_244 (tgt := 446) (by decide) (fun _ => ?_) (fun q => absurd rfl q)
  exact kk h2 ad2 cy2 H2 locs2 hI2 w2
theorem law_c5 (X : LC p l s m meth c D aS b L xs) (w : LW D s aS b a0 a9 i ls h ad cy H locs) (hi : i + 6 ≤ L) (hB : InvB Inv) (hO : OpS Inv 175 257 1) (hk : kc < 512) (hI : Inv kc h)
    (kk : ∀ h2 ad2 cy2 H2 locs2, Inv (kc + 1) h2 → LW D s aS b a0 a9 i ls h2 ad2 cy2 H2 locs2 → W p l e room_1 s m #[Value.ref b] below meth c H2 locs2 (hn h2) (hu h2) Q (F0 m 446 ls [])) : W p l e room_1 s m #[Value.ref b] below meth c H locs (hn h) (hu h) Q (F0 m 249 ls []) := by
  have hx := X.1.1
  have hb := X.1.2.1
  have hints : ∀ v ∈ ([.int (xs (i + 1))] : List Value), ∃ z, v = .int z := fun v hv => by
    simp only [List.mem_cons, List.not_mem_nil, or_false] at hv
    exact ⟨_, hv⟩
  have hE := hO kc h [.int (xs (i + 1))] hk hI rfl hints
  refine lv_aload_n hx hb dL_law_249 rfl (lv_at w.2.2.1 2 rfl) ?_
  refine law_ld X w 250 1 1 (by decide) (by decide) (by omega) dL_law_250 dL_law_251 dL_law_252 dL_law_253 dL_law_254 ?_
  refine law_call X w dL_law_255 (mj := 175) (by decide +kernel) mc_175 rfl [.int (xs (i + 1))] hints (k := 0) w.2.2.2.1 w.2.2.2.2.2.1 (by decide) rfl (Nat.le_of_ble_eq_true rfl) (rest := []) (fun _ hv => by cases hv) (by decide) hE (fun r h1 q => ⟨q.choose, q.choose_spec.1⟩) (fun r h1 q => op_bd q.choose_spec.2 (fun r2 h2 z => ⟨(hB _ _ z.2).2.2.1, (hB _ _ z.2).2.2.2⟩)) (fun z h1 ad1 cy1 H1 locs1 hK hm w1 => ?_)
  obtain ⟨z', hz, hE2⟩ := hK
  cases hz
  refine lv_aload_n hx hb dL_law_258 rfl (lv_at w1.2.2.1 1 rfl) ?_
  refine law_ld X w1 259 1 1 (by decide) (by decide) (by omega) dL_law_259 dL_law_260 dL_law_261 dL_law_262 dL_law_263 ?_
  refine law_call X w1 dL_law_264 (mj := 257) (by decide +kernel) mc_257 rfl [.int (xs (i + 1))] hints (k := 59) w1.2.2.2.2.1 w1.2.2.2.2.2.2.1 (by decide) rfl (Nat.le_of_ble_eq_true rfl) (rest := [.int z]) (fun v hv => ⟨z, by simpa using hv⟩) (Nat.le_of_ble_eq_true rfl) hE2 (fun r h2 q => ⟨z, q.1⟩) (fun r h2 q => ⟨(hB _ _ q.2).2.2.1, (hB _ _ q.2).2.2.2⟩) (fun z2 h2 ad2 cy2 H2 locs2 hK2 hm2 w2 => ?_)
  obtain ⟨hz2, hI2⟩ := hK2
  cases hz2
  refine lv_icmp_eq hx hb dL_law_267 (tgt := 446) (by decide) (fun _ => ?_) (fun q => absurd rfl q)
  exact kk h2 ad2 cy2 H2 locs2 hI2 w2
theorem law_c6 (X : LC p l s m meth c D aS b L xs) (w : LW D s aS b a0 a9 i ls h ad cy H locs) (hi : i + 6 ≤ L) (hB : InvB Inv) (hO : OpS Inv 172 244 1) (hk : kc < 512) (hI : Inv kc h)
    (kk : ∀ h2 ad2 cy2 H2 locs2, Inv (kc + 1) h2 → LW D s aS b a0 a9 i ls h2 ad2 cy2 H2 locs2 → W p l e room_1 s m #[Value.ref b] below meth c H2 locs2 (hn h2) (hu h2) Q (F0 m 446 ls [])) : W p l e room_1 s m #[Value.ref b] below meth c H locs (hn h) (hu h) Q (F0 m 272 ls []) := by
  have hx := X.1.1
  have hb := X.1.2.1
  have hints : ∀ v ∈ ([.int (xs (i + 1))] : List Value), ∃ z, v = .int z := fun v hv => by
    simp only [List.mem_cons, List.not_mem_nil, or_false] at hv
    exact ⟨_, hv⟩
  have hE := hO kc h [.int (xs (i + 1))] hk hI rfl hints
  refine lv_aload_n hx hb dL_law_272 rfl (lv_at w.2.2.1 2 rfl) ?_
  refine law_ld X w 273 1 1 (by decide) (by decide) (by omega) dL_law_273 dL_law_274 dL_law_275 dL_law_276 dL_law_277 ?_
  refine law_call X w dL_law_278 (mj := 172) (by decide +kernel) mc_172 rfl [.int (xs (i + 1))] hints (k := 0) w.2.2.2.1 w.2.2.2.2.2.1 (by decide) rfl (Nat.le_of_ble_eq_true rfl) (rest := []) (fun _ hv => by cases hv) (by decide) hE (fun r h1 q => ⟨q.choose, q.choose_spec.1⟩) (fun r h1 q => op_bd q.choose_spec.2 (fun r2 h2 z => ⟨(hB _ _ z.2).2.2.1, (hB _ _ z.2).2.2.2⟩)) (fun z h1 ad1 cy1 H1 locs1 hK hm w1 => ?_)
  obtain ⟨z', hz, hE2⟩ := hK
  cases hz
  refine lv_aload_n hx hb dL_law_281 rfl (lv_at w1.2.2.1 1 rfl) ?_
  refine law_ld X w1 282 1 1 (by decide) (by decide) (by omega) dL_law_282 dL_law_283 dL_law_284 dL_law_285 dL_law_286 ?_
  refine law_call X w1 dL_law_287 (mj := 244) (by decide +kernel) mc_244 rfl [.int (xs (i + 1))] hints (k := 59) w1.2.2.2.2.1 w1.2.2.2.2.2.2.1 (by decide) rfl (Nat.le_of_ble_eq_true rfl) (rest := [.int z]) (fun v hv => ⟨z, by simpa using hv⟩) (Nat.le_of_ble_eq_true rfl) hE2 (fun r h2 q => ⟨z, q.1⟩) (fun r h2 q => ⟨(hB _ _ q.2).2.2.1, (hB _ _ q.2).2.2.2⟩) (fun z2 h2 ad2 cy2 H2 locs2 hK2 hm2 w2 => ?_)
  obtain ⟨hz2, hI2⟩ := hK2
  cases hz2
  refine lv_icmp_eq hx hb dL_law_290 (tgt := 446) (by decide) (fun _ => ?_) (fun q => absurd rfl q)
  exact kk h2 ad2 cy2 H2 locs2 hI2 w2
theorem law_c7 (X : LC p l s m meth c D aS b L xs) (w : LW D s aS b a0 a9 i ls h ad cy H locs) (hi : i + 6 ≤ L) (hB : InvB Inv) (hO : OpS Inv 162 194 0) (hk : kc < 512) (hI : Inv kc h)
    (kk : ∀ h2 ad2 cy2 H2 locs2, Inv (kc + 1) h2 → LW D s aS b a0 a9 i ls h2 ad2 cy2 H2 locs2 → W p l e room_1 s m #[Value.ref b] below meth c H2 locs2 (hn h2) (hu h2) Q (F0 m 446 ls [])) : W p l e room_1 s m #[Value.ref b] below meth c H locs (hn h) (hu h) Q (F0 m 295 ls []) := by
  have hx := X.1.1
  have hb := X.1.2.1
  have hints : ∀ v ∈ ([] : List Value), ∃ z, v = .int z := fun v hv => by
    cases hv
  have hE := hO kc h [] hk hI rfl hints
  refine lv_aload_n hx hb dL_law_295 rfl (lv_at w.2.2.1 2 rfl) ?_
  refine law_call X w dL_law_296 (mj := 162) (by decide +kernel) mc_162 rfl [] hints (k := 0) w.2.2.2.1 w.2.2.2.2.2.1 (by decide) rfl (Nat.le_of_ble_eq_true rfl) (rest := []) (fun _ hv => by cases hv) (by decide) hE (fun r h1 q => ⟨q.choose, q.choose_spec.1⟩) (fun r h1 q => op_bd q.choose_spec.2 (fun r2 h2 z => ⟨(hB _ _ z.2).2.2.1, (hB _ _ z.2).2.2.2⟩)) (fun z h1 ad1 cy1 H1 locs1 hK hm w1 => ?_)
  obtain ⟨z', hz, hE2⟩ := hK
  cases hz
  refine lv_aload_n hx hb dL_law_299 rfl (lv_at w1.2.2.1 1 rfl) ?_
  refine law_call X w1 dL_law_300 (mj := 194) (by decide +kernel) mc_194 rfl [] hints (k := 59) w1.2.2.2.2.1 w1.2.2.2.2.2.2.1 (by decide) rfl (Nat.le_of_ble_eq_true rfl) (rest := [.int z]) (fun v hv => ⟨z, by simpa using hv⟩) (Nat.le_of_ble_eq_true rfl) hE2 (fun r h2 q => ⟨z, q.1⟩) (fun r h2 q => ⟨(hB _ _ q.2).2.2.1, (hB _ _ q.2).2.2.2⟩) (fun z2 h2 ad2 cy2 H2 locs2 hK2 hm2 w2 => ?_)
  obtain ⟨hz2, hI2⟩ := hK2
  cases hz2
  refine lv_icmp_eq hx hb dL_law_303 (tgt := 446) (by decide) (fun _ => ?_) (fun q => absurd rfl q)
  exact kk h2 ad2 cy2 H2 locs2 hI2 w2
theorem law_c8 (X : LC p l s m meth c D aS b L xs) (w : LW D s aS b a0 a9 i ls h ad cy H locs) (hi : i + 6 ≤ L) (hB : InvB Inv) (hO : OpS Inv 166 211 1) (hk : kc < 512) (hI : Inv kc h)
    (kk : ∀ h2 ad2 cy2 H2 locs2, Inv (kc + 1) h2 → LW D s aS b a0 a9 i ls h2 ad2 cy2 H2 locs2 → W p l e room_1 s m #[Value.ref b] below meth c H2 locs2 (hn h2) (hu h2) Q (F0 m 446 ls [])) : W p l e room_1 s m #[Value.ref b] below meth c H locs (hn h) (hu h) Q (F0 m 308 ls []) := by
  have hx := X.1.1
  have hb := X.1.2.1
  have hints : ∀ v ∈ ([.int (xs (i + 1))] : List Value), ∃ z, v = .int z := fun v hv => by
    simp only [List.mem_cons, List.not_mem_nil, or_false] at hv
    exact ⟨_, hv⟩
  have hE := hO kc h [.int (xs (i + 1))] hk hI rfl hints
  refine lv_aload_n hx hb dL_law_308 rfl (lv_at w.2.2.1 2 rfl) ?_
  refine law_ld X w 309 1 1 (by decide) (by decide) (by omega) dL_law_309 dL_law_310 dL_law_311 dL_law_312 dL_law_313 ?_
  refine law_call X w dL_law_314 (mj := 166) (by decide +kernel) mc_166 rfl [.int (xs (i + 1))] hints (k := 0) w.2.2.2.1 w.2.2.2.2.2.1 (by decide) rfl (Nat.le_of_ble_eq_true rfl) (rest := []) (fun _ hv => by cases hv) (by decide) hE (fun r h1 q => ⟨q.choose, q.choose_spec.1⟩) (fun r h1 q => op_bd q.choose_spec.2 (fun r2 h2 z => ⟨(hB _ _ z.2).2.2.1, (hB _ _ z.2).2.2.2⟩)) (fun z h1 ad1 cy1 H1 locs1 hK hm w1 => ?_)
  obtain ⟨z', hz, hE2⟩ := hK
  cases hz
  refine lv_aload_n hx hb dL_law_317 rfl (lv_at w1.2.2.1 1 rfl) ?_
  refine law_ld X w1 318 1 1 (by decide) (by decide) (by omega) dL_law_318 dL_law_319 dL_law_320 dL_law_321 dL_law_322 ?_
  refine law_call X w1 dL_law_323 (mj := 211) (by decide +kernel) mc_211 rfl [.int (xs (i + 1))] hints (k := 59) w1.2.2.2.2.1 w1.2.2.2.2.2.2.1 (by decide) rfl (Nat.le_of_ble_eq_true rfl) (rest := [.int z]) (fun v hv => ⟨z, by simpa using hv⟩) (Nat.le_of_ble_eq_true rfl) hE2 (fun r h2 q => ⟨z, q.1⟩) (fun r h2 q => ⟨(hB _ _ q.2).2.2.1, (hB _ _ q.2).2.2.2⟩) (fun z2 h2 ad2 cy2 H2 locs2 hK2 hm2 w2 => ?_)
  obtain ⟨hz2, hI2⟩ := hK2
  cases hz2
  refine lv_icmp_eq hx hb dL_law_326 (tgt := 446) (by decide) (fun _ => ?_) (fun q => absurd rfl q)
  exact kk h2 ad2 cy2 H2 locs2 hI2 w2
theorem law_c9 (X : LC p l s m meth c D aS b L xs) (w : LW D s aS b a0 a9 i ls h ad cy H locs) (hi : i + 6 ≤ L) (hB : InvB Inv) (hO : OpS Inv 167 212 1) (hk : kc < 512) (hI : Inv kc h)
    (kk : ∀ h2 ad2 cy2 H2 locs2, Inv (kc + 1) h2 → LW D s aS b a0 a9 i ls h2 ad2 cy2 H2 locs2 → W p l e room_1 s m #[Value.ref b] below meth c H2 locs2 (hn h2) (hu h2) Q (F0 m 446 ls [])) : W p l e room_1 s m #[Value.ref b] below meth c H locs (hn h) (hu h) Q (F0 m 331 ls []) := by
  have hx := X.1.1
  have hb := X.1.2.1
  have hints : ∀ v ∈ ([.int (xs (i + 1))] : List Value), ∃ z, v = .int z := fun v hv => by
    simp only [List.mem_cons, List.not_mem_nil, or_false] at hv
    exact ⟨_, hv⟩
  have hE := hO kc h [.int (xs (i + 1))] hk hI rfl hints
  refine lv_aload_n hx hb dL_law_331 rfl (lv_at w.2.2.1 2 rfl) ?_
  refine law_ld X w 332 1 1 (by decide) (by decide) (by omega) dL_law_332 dL_law_333 dL_law_334 dL_law_335 dL_law_336 ?_
  refine law_call X w dL_law_337 (mj := 167) (by decide +kernel) mc_167 rfl [.int (xs (i + 1))] hints (k := 0) w.2.2.2.1 w.2.2.2.2.2.1 (by decide) rfl (Nat.le_of_ble_eq_true rfl) (rest := []) (fun _ hv => by cases hv) (by decide) hE (fun r h1 q => ⟨q.choose, q.choose_spec.1⟩) (fun r h1 q => op_bd q.choose_spec.2 (fun r2 h2 z => ⟨(hB _ _ z.2).2.2.1, (hB _ _ z.2).2.2.2⟩)) (fun z h1 ad1 cy1 H1 locs1 hK hm w1 => ?_)
  obtain ⟨z', hz, hE2⟩ := hK
  cases hz
  refine lv_aload_n hx hb dL_law_340 rfl (lv_at w1.2.2.1 1 rfl) ?_
  refine law_ld X w1 341 1 1 (by decide) (by decide) (by omega) dL_law_341 dL_law_342 dL_law_343 dL_law_344 dL_law_345 ?_
  refine law_call X w1 dL_law_346 (mj := 212) (by decide +kernel) mc_212 rfl [.int (xs (i + 1))] hints (k := 59) w1.2.2.2.2.1 w1.2.2.2.2.2.2.1 (by decide) rfl (Nat.le_of_ble_eq_true rfl) (rest := [.int z]) (fun v hv => ⟨z, by simpa using hv⟩) (Nat.le_of_ble_eq_true rfl) hE2 (fun r h2 q => ⟨z, q.1⟩) (fun r h2 q => ⟨(hB _ _ q.2).2.2.1, (hB _ _ q.2).2.2.2⟩) (fun z2 h2 ad2 cy2 H2 locs2 hK2 hm2 w2 => ?_)
  obtain ⟨hz2, hI2⟩ := hK2
  cases hz2
  refine lv_icmp_eq hx hb dL_law_349 (tgt := 446) (by decide) (fun _ => ?_) (fun q => absurd rfl q)
  exact kk h2 ad2 cy2 H2 locs2 hI2 w2
theorem law_c10 (X : LC p l s m meth c D aS b L xs) (w : LW D s aS b a0 a9 i ls h ad cy H locs) (hi : i + 6 ≤ L) (hB : InvB Inv) (hO : OpS Inv 170 237 1) (hk : kc < 512) (hI : Inv kc h)
    (kk : ∀ h2 ad2 cy2 H2 locs2, Inv (kc + 1) h2 → LW D s aS b a0 a9 i ls h2 ad2 cy2 H2 locs2 → W p l e room_1 s m #[Value.ref b] below meth c H2 locs2 (hn h2) (hu h2) Q (F0 m 446 ls [])) : W p l e room_1 s m #[Value.ref b] below meth c H locs (hn h) (hu h) Q (F0 m 354 ls []) := by
  have hx := X.1.1
  have hb := X.1.2.1
  have hints : ∀ v ∈ ([.int (xs (i + 1))] : List Value), ∃ z, v = .int z := fun v hv => by
    simp only [List.mem_cons, List.not_mem_nil, or_false] at hv
    exact ⟨_, hv⟩
  have hE := hO kc h [.int (xs (i + 1))] hk hI rfl hints
  refine lv_aload_n hx hb dL_law_354 rfl (lv_at w.2.2.1 2 rfl) ?_
  refine law_ld X w 355 1 1 (by decide) (by decide) (by omega) dL_law_355 dL_law_356 dL_law_357 dL_law_358 dL_law_359 ?_
  refine law_call X w dL_law_360 (mj := 170) (by decide +kernel) mc_170 rfl [.int (xs (i + 1))] hints (k := 0) w.2.2.2.1 w.2.2.2.2.2.1 (by decide) rfl (Nat.le_of_ble_eq_true rfl) (rest := []) (fun _ hv => by cases hv) (by decide) hE (fun r h1 q => ⟨q.choose, q.choose_spec.1⟩) (fun r h1 q => op_bd q.choose_spec.2 (fun r2 h2 z => ⟨(hB _ _ z.2).2.2.1, (hB _ _ z.2).2.2.2⟩)) (fun z h1 ad1 cy1 H1 locs1 hK hm w1 => ?_)
  obtain ⟨z', hz, hE2⟩ := hK
  cases hz
  refine lv_aload_n hx hb dL_law_363 rfl (lv_at w1.2.2.1 1 rfl) ?_
  refine law_ld X w1 364 1 1 (by decide) (by decide) (by omega) dL_law_364 dL_law_365 dL_law_366 dL_law_367 dL_law_368 ?_
  refine law_call X w1 dL_law_369 (mj := 237) (by decide +kernel) mc_237 rfl [.int (xs (i + 1))] hints (k := 59) w1.2.2.2.2.1 w1.2.2.2.2.2.2.1 (by decide) rfl (Nat.le_of_ble_eq_true rfl) (rest := [.int z]) (fun v hv => ⟨z, by simpa using hv⟩) (Nat.le_of_ble_eq_true rfl) hE2 (fun r h2 q => ⟨z, q.1⟩) (fun r h2 q => ⟨(hB _ _ q.2).2.2.1, (hB _ _ q.2).2.2.2⟩) (fun z2 h2 ad2 cy2 H2 locs2 hK2 hm2 w2 => ?_)
  obtain ⟨hz2, hI2⟩ := hK2
  cases hz2
  refine lv_icmp_eq hx hb dL_law_372 (tgt := 446) (by decide) (fun _ => ?_) (fun q => absurd rfl q)
  exact kk h2 ad2 cy2 H2 locs2 hI2 w2
theorem law_c11 (X : LC p l s m meth c D aS b L xs) (w : LW D s aS b a0 a9 i ls h ad cy H locs) (hi : i + 6 ≤ L) (hB : InvB Inv) (hO : OpS Inv 176 258 1) (hk : kc < 512) (hI : Inv kc h)
    (kk : ∀ h2 ad2 cy2 H2 locs2, Inv (kc + 1) h2 → LW D s aS b a0 a9 i ls h2 ad2 cy2 H2 locs2 → W p l e room_1 s m #[Value.ref b] below meth c H2 locs2 (hn h2) (hu h2) Q (F0 m 446 ls [])) : W p l e room_1 s m #[Value.ref b] below meth c H locs (hn h) (hu h) Q (F0 m 377 ls []) := by
  have hx := X.1.1
  have hb := X.1.2.1
  have hints : ∀ v ∈ ([.int (xs (i + 1))] : List Value), ∃ z, v = .int z := fun v hv => by
    simp only [List.mem_cons, List.not_mem_nil, or_false] at hv
    exact ⟨_, hv⟩
  have hE := hO kc h [.int (xs (i + 1))] hk hI rfl hints
  refine lv_aload_n hx hb dL_law_377 rfl (lv_at w.2.2.1 2 rfl) ?_
  refine law_ld X w 378 1 1 (by decide) (by decide) (by omega) dL_law_378 dL_law_379 dL_law_380 dL_law_381 dL_law_382 ?_
  refine law_call X w dL_law_383 (mj := 176) (by decide +kernel) mc_176 rfl [.int (xs (i + 1))] hints (k := 0) w.2.2.2.1 w.2.2.2.2.2.1 (by decide) rfl (Nat.le_of_ble_eq_true rfl) (rest := []) (fun _ hv => by cases hv) (by decide) hE (fun r h1 q => ⟨q.choose, q.choose_spec.1⟩) (fun r h1 q => op_bd q.choose_spec.2 (fun r2 h2 z => ⟨(hB _ _ z.2).2.2.1, (hB _ _ z.2).2.2.2⟩)) (fun z h1 ad1 cy1 H1 locs1 hK hm w1 => ?_)
  obtain ⟨z', hz, hE2⟩ := hK
  cases hz
  refine lv_aload_n hx hb dL_law_386 rfl (lv_at w1.2.2.1 1 rfl) ?_
  refine law_ld X w1 387 1 1 (by decide) (by decide) (by omega) dL_law_387 dL_law_388 dL_law_389 dL_law_390 dL_law_391 ?_
  refine law_call X w1 dL_law_392 (mj := 258) (by decide +kernel) mc_258 rfl [.int (xs (i + 1))] hints (k := 59) w1.2.2.2.2.1 w1.2.2.2.2.2.2.1 (by decide) rfl (Nat.le_of_ble_eq_true rfl) (rest := [.int z]) (fun v hv => ⟨z, by simpa using hv⟩) (Nat.le_of_ble_eq_true rfl) hE2 (fun r h2 q => ⟨z, q.1⟩) (fun r h2 q => ⟨(hB _ _ q.2).2.2.1, (hB _ _ q.2).2.2.2⟩) (fun z2 h2 ad2 cy2 H2 locs2 hK2 hm2 w2 => ?_)
  obtain ⟨hz2, hI2⟩ := hK2
  cases hz2
  refine lv_icmp_eq hx hb dL_law_395 (tgt := 446) (by decide) (fun _ => ?_) (fun q => absurd rfl q)
  exact kk h2 ad2 cy2 H2 locs2 hI2 w2
theorem law_c12 (X : LC p l s m meth c D aS b L xs) (w : LW D s aS b a0 a9 i ls h ad cy H locs) (hi : i + 6 ≤ L) (hB : InvB Inv) (hO : OpS Inv 159 184 1) (hk : kc < 512) (hI : Inv kc h)
    (kk : ∀ h2 ad2 cy2 H2 locs2, Inv (kc + 1) h2 → LW D s aS b a0 a9 i ls h2 ad2 cy2 H2 locs2 → W p l e room_1 s m #[Value.ref b] below meth c H2 locs2 (hn h2) (hu h2) Q (F0 m 446 ls [])) : W p l e room_1 s m #[Value.ref b] below meth c H locs (hn h) (hu h) Q (F0 m 400 ls []) := by
  have hx := X.1.1
  have hb := X.1.2.1
  have hints : ∀ v ∈ ([.int (xs (i + 1))] : List Value), ∃ z, v = .int z := fun v hv => by
    simp only [List.mem_cons, List.not_mem_nil, or_false] at hv
    exact ⟨_, hv⟩
  have hE := hO kc h [.int (xs (i + 1))] hk hI rfl hints
  refine lv_aload_n hx hb dL_law_400 rfl (lv_at w.2.2.1 2 rfl) ?_
  refine law_ld X w 401 1 1 (by decide) (by decide) (by omega) dL_law_401 dL_law_402 dL_law_403 dL_law_404 dL_law_405 ?_
  refine law_call X w dL_law_406 (mj := 159) (by decide +kernel) mc_159 rfl [.int (xs (i + 1))] hints (k := 0) w.2.2.2.1 w.2.2.2.2.2.1 (by decide) rfl (Nat.le_of_ble_eq_true rfl) (rest := []) (fun _ hv => by cases hv) (by decide) hE (fun r h1 q => ⟨q.choose, q.choose_spec.1⟩) (fun r h1 q => op_bd q.choose_spec.2 (fun r2 h2 z => ⟨(hB _ _ z.2).2.2.1, (hB _ _ z.2).2.2.2⟩)) (fun z h1 ad1 cy1 H1 locs1 hK hm w1 => ?_)
  obtain ⟨z', hz, hE2⟩ := hK
  cases hz
  refine lv_aload_n hx hb dL_law_409 rfl (lv_at w1.2.2.1 1 rfl) ?_
  refine law_ld X w1 410 1 1 (by decide) (by decide) (by omega) dL_law_410 dL_law_411 dL_law_412 dL_law_413 dL_law_414 ?_
  refine law_call X w1 dL_law_415 (mj := 184) (by decide +kernel) mc_184 rfl [.int (xs (i + 1))] hints (k := 59) w1.2.2.2.2.1 w1.2.2.2.2.2.2.1 (by decide) rfl (Nat.le_of_ble_eq_true rfl) (rest := [.int z]) (fun v hv => ⟨z, by simpa using hv⟩) (Nat.le_of_ble_eq_true rfl) hE2 (fun r h2 q => ⟨z, q.1⟩) (fun r h2 q => ⟨(hB _ _ q.2).2.2.1, (hB _ _ q.2).2.2.2⟩) (fun z2 h2 ad2 cy2 H2 locs2 hK2 hm2 w2 => ?_)
  obtain ⟨hz2, hI2⟩ := hK2
  cases hz2
  refine lv_icmp_eq hx hb dL_law_418 (tgt := 446) (by decide) (fun _ => ?_) (fun q => absurd rfl q)
  exact kk h2 ad2 cy2 H2 locs2 hI2 w2
theorem law_c13 (X : LC p l s m meth c D aS b L xs) (w : LW D s aS b a0 a9 i ls h ad cy H locs) (hi : i + 6 ≤ L) (hB : InvB Inv) (hO : OpS Inv 163 197 1) (hk : kc < 512) (hI : Inv kc h)
    (kk : ∀ h2 ad2 cy2 H2 locs2, Inv (kc + 1) h2 → LW D s aS b a0 a9 i ls h2 ad2 cy2 H2 locs2 → W p l e room_1 s m #[Value.ref b] below meth c H2 locs2 (hn h2) (hu h2) Q (F0 m 446 ls [])) : W p l e room_1 s m #[Value.ref b] below meth c H locs (hn h) (hu h) Q (F0 m 423 ls []) := by
  have hx := X.1.1
  have hb := X.1.2.1
  have hints : ∀ v ∈ ([.int (xs (i + 1))] : List Value), ∃ z, v = .int z := fun v hv => by
    simp only [List.mem_cons, List.not_mem_nil, or_false] at hv
    exact ⟨_, hv⟩
  have hE := hO kc h [.int (xs (i + 1))] hk hI rfl hints
  refine lv_aload_n hx hb dL_law_423 rfl (lv_at w.2.2.1 2 rfl) ?_
  refine law_ld X w 424 1 1 (by decide) (by decide) (by omega) dL_law_424 dL_law_425 dL_law_426 dL_law_427 dL_law_428 ?_
  refine law_call X w dL_law_429 (mj := 163) (by decide +kernel) mc_163 rfl [.int (xs (i + 1))] hints (k := 0) w.2.2.2.1 w.2.2.2.2.2.1 (by decide) rfl (Nat.le_of_ble_eq_true rfl) (rest := []) (fun _ hv => by cases hv) (by decide) hE (fun r h1 q => ⟨q.choose, q.choose_spec.1⟩) (fun r h1 q => op_bd q.choose_spec.2 (fun r2 h2 z => ⟨(hB _ _ z.2).2.2.1, (hB _ _ z.2).2.2.2⟩)) (fun z h1 ad1 cy1 H1 locs1 hK hm w1 => ?_)
  obtain ⟨z', hz, hE2⟩ := hK
  cases hz
  refine lv_aload_n hx hb dL_law_432 rfl (lv_at w1.2.2.1 1 rfl) ?_
  refine law_ld X w1 433 1 1 (by decide) (by decide) (by omega) dL_law_433 dL_law_434 dL_law_435 dL_law_436 dL_law_437 ?_
  refine law_call X w1 dL_law_438 (mj := 197) (by decide +kernel) mc_197 rfl [.int (xs (i + 1))] hints (k := 59) w1.2.2.2.2.1 w1.2.2.2.2.2.2.1 (by decide) rfl (Nat.le_of_ble_eq_true rfl) (rest := [.int z]) (fun v hv => ⟨z, by simpa using hv⟩) (Nat.le_of_ble_eq_true rfl) hE2 (fun r h2 q => ⟨z, q.1⟩) (fun r h2 q => ⟨(hB _ _ q.2).2.2.1, (hB _ _ q.2).2.2.2⟩) (fun z2 h2 ad2 cy2 H2 locs2 hK2 hm2 w2 => ?_)
  obtain ⟨hz2, hI2⟩ := hK2
  cases hz2
  refine lv_icmp_eq hx hb dL_law_441 (tgt := 446) (by decide) (fun _ => ?_) (fun q => absurd rfl q)
  exact kk h2 ad2 cy2 H2 locs2 hI2 w2
def OpsOK (Inv : Nat → Hp → Prop) : Prop := OpS Inv 165 203 5 ∧ OpS Inv 161 290 1 ∧ OpS Inv 164 202 1 ∧ OpS Inv 174 254 0 ∧ OpS Inv 169 218 1 ∧ OpS Inv 175 257 1 ∧ OpS Inv 172 244 1 ∧ OpS Inv 162 194 0 ∧ OpS Inv 166 211 1 ∧ OpS Inv 167 212 1 ∧ OpS Inv 170 237 1 ∧ OpS Inv 176 258 1 ∧ OpS Inv 159 184 1 ∧ OpS Inv 163 197 1 ∧ ∀ k h, Inv k h → Inv (k + 1) h
theorem law_sw {P : Prop} {x : Int32} (hx : x.toInt < 0 ∨ 13 < x.toInt ∨ x = 0 ∨ x = 1 ∨ x = 2 ∨ x = 3 ∨ x = 4 ∨ x = 5 ∨ x = 6 ∨ x = 7 ∨ x = 8 ∨ x = 9 ∨ x = 10 ∨ x = 11 ∨ x = 12 ∨ x = 13 → P) : P := by
  refine hx ?_
  by_cases h0 : x.toInt < 0
  · exact Or.inl h0
  · by_cases h1 : 13 < x.toInt
    · exact Or.inr (Or.inl h1)
    · have e : x = Int32.ofInt x.toInt := (Int32.ofInt_toInt x).symm
      have hc : x.toInt = 0 ∨ x.toInt = 1 ∨ x.toInt = 2 ∨ x.toInt = 3 ∨ x.toInt = 4 ∨ x.toInt = 5 ∨ x.toInt = 6 ∨ x.toInt = 7 ∨ x.toInt = 8 ∨ x.toInt = 9 ∨ x.toInt = 10 ∨ x.toInt = 11 ∨ x.toInt = 12 ∨ x.toInt = 13 := by omega
      refine Or.inr (Or.inr ?_)
      rcases hc with q | q | q | q | q | q | q | q | q | q | q | q | q | q <;> (rw [q] at e; rw [e]; decide)
set_option maxHeartbeats 4000000 in
theorem law_loop (X : LC p l s m meth c D aS b L xs) (hB : InvB Inv) (hO : OpsOK Inv) (hend : ∀ h ad cy H locs ls i, LW D s aS b a0 a9 i ls h ad cy H locs → hn h ≤ 601024 → hu h ≤ 7293034 → W p l e room_1 s m #[Value.ref b] below meth c H locs (hn h) (hu h) Q (F0 m 452 ls [])) : ∀ (f i : Nat), L < 6 * f + i → ∀ (k : Nat) (ls : Array Slot) (h : Hp) (ad : Nat → Nat) (cy : Nat → ClassId) (H : Heap) (locs : List Loc), i = 6 * k → Inv k h → LW D s aS b a0 a9 i ls h ad cy H locs → W p l e room_1 s m #[Value.ref b] below meth c H locs (hn h) (hu h) Q (F0 m 18 ls []) := by
  have hx := X.1.1
  have hb := X.1.2.1
  obtain ⟨-, -, -, hXs, hbl, hL⟩ := id X
  intro f
  have hd : ∀ (i : Nat) (ls : Array Slot) (h : Hp) (ad : Nat → Nat) (cy : Nat → ClassId) (H : Heap) (locs : List Loc), LW D s aS b a0 a9 i ls h ad cy H locs → (L < i + 6 → W p l e room_1 s m #[Value.ref b] below meth c H locs (hn h) (hu h) Q (F0 m 452 ls [])) → (i + 6 ≤ L → W p l e room_1 s m #[Value.ref b] below meth c H locs (hn h) (hu h) Q (F0 m 27 ls [])) → W p l e room_1 s m #[Value.ref b] below meth c H locs (hn h) (hu h) Q (F0 m 18 ls []) := by
    intro i ls h ad cy H locs w q1 q2
    have hi4 := w.2.2.2.2.2.2.2
    refine lv_iload_n hx hb dL_law_18 rfl (lv_at w.2.2.1 0 rfl) ?_
    refine lv_aload_n hx hb dL_law_19 rfl (lv_at w.2.2.1 3 rfl) ?_
    refine va_slen hx hb hXs hbl (Nat.not_le.mpr hbl) w.1.2.2.1 dL_law_20 ?_
    refine lv_bipush hx hb (v := 6) dL_law_21 (by decide) ?_
    refine lv_isub hx hb dL_law_23 ?_
    have e6 : (Int32.ofNat L - 6).toInt = (L : Int) - 6 := by
      have hbm : ∀ z : Int, -2000000000 ≤ z → z ≤ 2000000000 → z.bmod (2 ^ 32) = z := fun z h1 h2 => by
        rw [Int.bmod_def]; split <;> omega
      show (nI L - 6).toInt = _
      rw [Int32.toInt_sub, nI_toInt (by omega), show (6 : Int32).toInt = 6 by decide]
      exact hbm _ (by omega) (by omega)
    refine lv_icmp_gt hx hb dL_law_24 (tgt := 452) (by decide) (fun q => q1 ?_) (fun q => q2 ?_)
    · have := Int32.lt_iff_toInt_lt.mp q
      rw [e6, nI_toInt (by omega)] at this
      omega
    · have : ¬ (Int32.ofNat L - 6).toInt < (nI i).toInt := fun z => q (Int32.lt_iff_toInt_lt.mpr z)
      rw [e6, nI_toInt (by omega)] at this
      omega
  induction f with
  | zero =>
    intro i hf k ls h ad cy H locs hik hI w
    exact hd i ls h ad cy H locs w (fun _ => hend h ad cy H locs ls i w (hB _ _ hI).2.2.1 (hB _ _ hI).2.2.2) (fun q => by omega)
  | succ f ih =>
    intro i hf k ls h ad cy H locs hik hI w
    refine hd i ls h ad cy H locs w (fun _ => hend h ad cy H locs ls i w (hB _ _ hI).2.2.1 (hB _ _ hI).2.2.2) (fun hi6 => ?_)
    have hk512 : k < 512 := by omega
    have kk : ∀ h2 ad2 cy2 H2 locs2, Inv (k + 1) h2 → LW D s aS b a0 a9 i ls h2 ad2 cy2 H2 locs2 → W p l e room_1 s m #[Value.ref b] below meth c H2 locs2 (hn h2) (hu h2) Q (F0 m 446 ls []) := by
      intro h2 ad2 cy2 H2 locs2 hI2 w2
      refine lv_iinc hx hb (k := 0) dL_law_446 w2.2.2.1 rfl (v := nI (i + 6)) (by show nI i + Int32.ofInt 6 = _; rw [show Int32.ofInt 6 = nI 6 by decide, nI_add]) (by decide) rfl (fun ls' hl' => ?_)
      refine lv_goto hx hb dL_law_449 (tgt := 18) (by decide) ?_
      refine ih (i + 6) (by omega) (k + 1) ls' h2 ad2 cy2 H2 locs2 (by omega) hI2 ⟨w2.1, w2.2.1, ?_, w2.2.2.2.1, w2.2.2.2.2.1, w2.2.2.2.2.2.1, w2.2.2.2.2.2.2.1, by omega⟩
      exact ⟨hl'.1, hl'.2.1, fun z hz => hl'.2.2 z (by
        simp only [List.mem_cons, List.not_mem_nil, or_false] at hz
        rcases hz with e | e | e | e
        · rw [e]; exact List.mem_cons_self
        · rw [e]; exact List.mem_cons_of_mem _ (List.mem_filter.mpr ⟨List.mem_cons_of_mem _ List.mem_cons_self, rfl⟩)
        · rw [e]; exact List.mem_cons_of_mem _ (List.mem_filter.mpr ⟨List.mem_cons_of_mem _ (List.mem_cons_of_mem _ List.mem_cons_self), rfl⟩)
        · rw [e]; exact List.mem_cons_of_mem _ (List.mem_filter.mpr ⟨List.mem_cons_of_mem _ (List.mem_cons_of_mem _ (List.mem_cons_of_mem _ List.mem_cons_self)), rfl⟩))⟩
    refine lv_aload_n hx hb dL_law_27 rfl (lv_at w.2.2.1 3 rfl) ?_
    refine lv_iload_n hx hb dL_law_28 rfl (lv_at w.2.2.1 0 rfl) ?_
    refine va_sld hx hb hXs hbl (Nat.not_le.mpr hbl) w.1.2.2.1 (i := nI i) (fun q => q.elim (nI_pos (by omega)) (fun z => by rw [nI_clamp (by omega)] at z; omega)) dL_law_29 ?_
    refine lv_bipush hx hb (v := 15) dL_law_30 (by decide) ?_
    refine lv_iand hx hb dL_law_32 ?_
    refine law_sw (x := xs (nI i).toNatClampNeg &&& 15) (fun hc => ?_)
    have kd : Inv (k + 1) h := hO.2.2.2.2.2.2.2.2.2.2.2.2.2.2 k h hI
    rcases hc with q | q | q | q | q | q | q | q | q | q | q | q | q | q | q | q
    · exact lv_tableOut hx hb dL_law_33 (tgt := 446) (Or.inl q) (by decide) (kk h ad cy H locs kd w)
    · exact lv_tableOut hx hb dL_law_33 (tgt := 446) (Or.inr q) (by decide) (kk h ad cy H locs kd w)
    · rw [q]; exact lv_tableIn hx hb dL_law_33 (off := 71) (tgt := 104) (by decide) (by decide) (by decide) (by decide) (law_c0 X w hi6 hB hO.1 hk512 hI kk)
    · rw [q]; exact lv_tableIn hx hb dL_law_33 (off := 134) (tgt := 167) (by decide) (by decide) (by decide) (by decide) (law_c1 X w hi6 hB hO.2.1 hk512 hI kk)
    · rw [q]; exact lv_tableIn hx hb dL_law_33 (off := 157) (tgt := 190) (by decide) (by decide) (by decide) (by decide) (law_c2 X w hi6 hB hO.2.2.1 hk512 hI kk)
    · rw [q]; exact lv_tableIn hx hb dL_law_33 (off := 180) (tgt := 213) (by decide) (by decide) (by decide) (by decide) (law_c3 X w hi6 hB hO.2.2.2.1 hk512 hI kk)
    · rw [q]; exact lv_tableIn hx hb dL_law_33 (off := 193) (tgt := 226) (by decide) (by decide) (by decide) (by decide) (law_c4 X w hi6 hB hO.2.2.2.2.1 hk512 hI kk)
    · rw [q]; exact lv_tableIn hx hb dL_law_33 (off := 216) (tgt := 249) (by decide) (by decide) (by decide) (by decide) (law_c5 X w hi6 hB hO.2.2.2.2.2.1 hk512 hI kk)
    · rw [q]; exact lv_tableIn hx hb dL_law_33 (off := 239) (tgt := 272) (by decide) (by decide) (by decide) (by decide) (law_c6 X w hi6 hB hO.2.2.2.2.2.2.1 hk512 hI kk)
    · rw [q]; exact lv_tableIn hx hb dL_law_33 (off := 262) (tgt := 295) (by decide) (by decide) (by decide) (by decide) (law_c7 X w hi6 hB hO.2.2.2.2.2.2.2.1 hk512 hI kk)
    · rw [q]; exact lv_tableIn hx hb dL_law_33 (off := 275) (tgt := 308) (by decide) (by decide) (by decide) (by decide) (law_c8 X w hi6 hB hO.2.2.2.2.2.2.2.2.1 hk512 hI kk)
    · rw [q]; exact lv_tableIn hx hb dL_law_33 (off := 298) (tgt := 331) (by decide) (by decide) (by decide) (by decide) (law_c9 X w hi6 hB hO.2.2.2.2.2.2.2.2.2.1 hk512 hI kk)
    · rw [q]; exact lv_tableIn hx hb dL_law_33 (off := 321) (tgt := 354) (by decide) (by decide) (by decide) (by decide) (law_c10 X w hi6 hB hO.2.2.2.2.2.2.2.2.2.2.1 hk512 hI kk)
    · rw [q]; exact lv_tableIn hx hb dL_law_33 (off := 344) (tgt := 377) (by decide) (by decide) (by decide) (by decide) (law_c11 X w hi6 hB hO.2.2.2.2.2.2.2.2.2.2.2.1 hk512 hI kk)
    · rw [q]; exact lv_tableIn hx hb dL_law_33 (off := 367) (tgt := 400) (by decide) (by decide) (by decide) (by decide) (law_c12 X w hi6 hB hO.2.2.2.2.2.2.2.2.2.2.2.2.1 hk512 hI kk)
    · rw [q]; exact lv_tableIn hx hb dL_law_33 (off := 390) (tgt := 423) (by decide) (by decide) (by decide) (by decide) (law_c13 X w hi6 hB hO.2.2.2.2.2.2.2.2.2.2.2.2.2.1 hk512 hI kk)
end LAWW
