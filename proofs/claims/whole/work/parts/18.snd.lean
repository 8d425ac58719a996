/-! THE SOUNDNESS OF 'rn': what it answers, the machine does -/
/-- facts on cells that no method of ours touches (texts, statics): what they must bear -/
def TxP (TX : (Nat → Prop) → State → Heap → Prop) : Prop :=
  (∀ A u U H, u.vm = U.vm → TX A u H → TX A U H) ∧ (∀ A s U H, s.WarmedH U.vm → TX A s H → TX A U H) ∧ (∀ A U H H1, TX A U H → (∀ a : Nat, a < H.size → ¬ A a → H1[a]? = H[a]?) → TX A U H1) ∧ (∀ A B U H, TX A U H → (∀ q, B q → A q) → TX B U H) ∧ ∀ A U H, TX A U H → (Cond.castable RJxb5711 RJxb5711).before #[] U = true
section SND
variable (TX : (Nat → Prop) → State → Heap → Prop) (aS : Nat → Nat)
/-- the instructions of sX are sound -/
def SXOK : Prop := ∀ (p : Program) (l : Launch) (e : Env) (R : Room) (s : State) (m : MethodId) (args : Array Value) (below : List Frame) (meth : Method) (c : Code) (H : Heap) (locs : List Loc) (cells slots : Nat) (Q : State → Prop) (pc : Nat) (ls : Array Slot) (D : va_G) (A : Nat → Prop) (H0 : Heap) (x : MI) (ad : Nat → Nat) (cy : Nat → ClassId) (h : Hp) (i : Instr) (st st' : List Value) (mi len ln d : Nat) (h' : Hp),
  mInfo mi = some x → Cx p s m args meth c D A H0 x → l.stackTraces = false ∧ H0 = s.heap → TX A s H0 → Wd D s A H0 ad cy h H locs → (∀ k, SB ≤ k → ad k = aS k) → sX mi pc x.2.2.2.2.1 i st h = some (ln, st', h') → decode x.2.1 pc = .ok (i, len) → (len = ln ∨ ln = 9) → okS (hn h) st → 8 < d → d ≤ R.frames → 60 * d ≤ R.locals → ls.size = x.2.2.1 →
  cells + (hn h' - hn h) ≤ R.cells → slots + (hu h' - hu h) ≤ R.slots → Nx p l e R s m args below meth c D A H0 cells slots Q ls ad h h' (pc + ln) st' → W p l e R s m args below meth c H locs cells slots Q (F0 m pc ls (st.map (cz ad)))
/-- what the addresses behind a run have to do with those ahead of it -/
def AdR (h h' : Hp) (ad ad' : Nat → Nat) : Prop := (∀ k, hv h' k = hv h k → k < hn h → ad' k = ad k) ∧ (∀ k, k < hn h → hK h k < 13 → ad' k = ad k) ∧ ∀ k, SB ≤ k → ad' k = ad k
theorem AdR.tr {h h1 h' : Hp} {ad ad1 ad' : Nat → Nat} (a : AdR h h1 ad ad1) (b : AdR h1 h' ad1 ad') (m1 : Mono h h1) (m2 : Mono h1 h') : AdR h h' ad ad' := by
  refine ⟨fun k hv' hk => ?_, fun k hk h13 => ?_, fun k hk => (b.2.2 k hk).trans (a.2.2 k hk)⟩
  · have e1 : hv h1 k = hv h k := by have := m1.2.2.1 k; have := m2.2.2.1 k; omega
    have e2 : hv h' k = hv h1 k := by have := m1.2.2.1 k; have := m2.2.2.1 k; omega
    exact (b.1 k e2 (Nat.lt_of_lt_of_le hk m1.1)).trans (a.1 k e1 hk)
  · exact (b.2.1 k (Nat.lt_of_lt_of_le hk m1.1) (by rw [m1.2.2.2 k hk]; exact h13)).trans (a.2.1 k hk h13)
theorem AdR.rf (h : Hp) (ad : Nat → Nat) : AdR h h ad ad := ⟨fun _ _ _ => rfl, fun _ _ _ => rfl, fun _ _ => rfl⟩
/-- the table of handlers -/
def XTb (c : Code) (mi : Nat) : Prop := (mi < 290 → ∀ z ∈ c.exceptionTable.toList, False) ∧ (mi = 290 → c.exceptionTable.toList = tableOf [(81, 89, 92, 30)])
def Snd (n : Nat) : Prop := ∀ (d mi pc : Nat) (L : ALS) (st : List Value) (h : Hp) (r : Option Value) (h' : Hp), rn n d mi pc L st h = some (r, h') → ∀ (x : MI), mInfo mi = some x →
  ∀ (p : Program) (l : Launch) (e : Env) (R : Room) (s : State) (m : MethodId) (args : Array Value) (below : List Frame) (meth : Method) (c : Code) (D : va_G) (A : Nat → Prop) (H0 : Heap), Cx p s m args meth c D A H0 x → XTb c mi → l.stackTraces = false ∧ H0 = s.heap → TX A s H0 → d ≤ R.frames → 60 * d ≤ R.locals →
  ∀ (ad : Nat → Nat) (cy : Nat → ClassId) (H : Heap) (locs : List Loc) (ls : Array Slot) (cells slots : Nat) (Qc : Array Value → State → Outcome → State → Prop) (XC : String → State → State → Prop) (free : Addr → Prop), Wd D s A H0 ad cy h H locs → (∀ k, SB ≤ k → ad k = aS k) → lv_has ls x.2.2.1 (czL ad L) → okL (hn h) L → okS (hn h) st →
  cells + (hn h' - hn h) ≤ R.cells → slots + (hu h' - hu h) ≤ R.slots →
  (isThr r = false → ∀ (ad' : Nat → Nat) (cy' : Nat → ClassId) (H' : Heap) (locs' : List Loc) (t : State), Wd D s A H0 ad' cy' h' H' locs' → t.heap = H' → s.WarmedH t.vm → AdR h h' ad ad' → (∀ v, r = some v → okv (hn h') v) → Qc args s (.returned (r.map (cz ad'))) t) →
  (isThr r = true → ∀ (ad' : Nat → Nat) (cy' : Nat → ClassId) (H' : Heap) (locs' : List Loc) (t : State), Wd D s A H0 ad' cy' h' H' locs' → t.heap = H' → s.vm.Alike t.vm → AdR h h' ad ad' → XC RJxb5711 s t) → (∀ q, A q → free q) →
  W p l e R s m args below meth c H locs cells slots (vx_MQ below Qc XC args s (cells + (hn h' - hn h)) (slots + (hu h' - hu h)) free) (F0 m pc ls (st.map (cz ad)))
end SND
theorem callAny {p : Program} {l : Launch} {e : Env} {R : Room} {s : State} {m : MethodId} {args : Array Value} {below : List Frame} {meth : Method} {c : Code} {H : Heap} {locs : List Loc} {cells slots mc ms : Nat} {Q : State → Prop} {pc : Nat} {ls : Array Slot} {st0 rest : List Value} {a : Array Value} {Qc : Array Value → State → Outcome → State → Prop} {free : Addr → Prop} {A0 A1 : Nat → Prop} {H0 : Heap}
    (hr : va_Run p l e R s m args below meth c H locs cells slots mc ms (F0 m pc ls st0) rest (Qc a) free) (hS : va_S A0 H0 H locs) (hA : ∀ q, q < H.size → A1 q → A0 q) (hf : ∀ q, free q → A0 q) (hF : ∀ (st₀ t : State) (o : Outcome), Qc a st₀ o t → va_F A1 st₀ t)
    (kk : ∀ (v : Option Value) (st₀ t : State) (locs1 : List Loc), st₀.heap = H → s.WarmedH t.vm → Qc a st₀ (.returned v) t → va_S A0 H0 t.heap locs1 → W p l e R s m args below meth c t.heap locs1 (cells + mc) (slots + ms) Q (F0 m (pc + 3) ls (v.toList ++ rest))) : W p l e R s m args below meth c H locs cells slots Q (F0 m pc ls st0) := by
  intro T hT X
  obtain ⟨v, st₀, t, T', L, h0, X', hL, e1, e2, hq, st⟩ := hr T hT X
  obtain ⟨hz, hk⟩ := hF _ _ _ hq
  rw [h0] at hz hk
  obtain ⟨t2, a1, b1⟩ := kk v st₀ t (locs ++ L) h0 (by rw [← e2]; exact X'.warmed) hq
    ⟨Nat.le_trans hS.1 hz, fun q h1 h2 => by rw [hk q (Nat.lt_of_lt_of_le h1 hS.1) (fun z => h2 (hA q (Nat.lt_of_lt_of_le h1 hS.1) z))]; exact hS.2.1 q h1 h2, fun q hq => by
      rcases List.mem_append.mp hq with h | h
      · exact hS.2.2 q h
      · exact hf _ (hL q h)⟩ T' e1 X'
  exact ⟨t2, st t2 a1, b1⟩
theorem Met.ofWF {l : Launch} {y : MethodName} {ws ws' : List Cond} {rm : Room} {Pc : Array Value → State → Prop} {Qc : Array Value → State → Outcome → State → Prop} {mc ms : Nat} {free : Addr → Prop} {cc : ByteArray} {maxL : Nat} {ret : Option FieldType}
    (hy : plainFor y = true) (hw : ws = Cond.code y cc maxL ret :: ws')
    (body : ∀ p e s m args below meth c s₁, BodyLoose p l y (headSpec ws rm) cc maxL ret e s m args below meth c s₁ → c.maxLocals = maxL → Pc args s →
      W p l e (headSpec ws rm).room s m args below meth c s.heap [] 0 0 (MQ below Qc args s mc ms free) (entryFrame m args maxL)) : Met l y ws rm Pc Qc mc ms free := by
  refine MetFree.of_bodySF (code := cc) (maxLocals := maxL) (ret := ret) hy ?_ ?_
  · intro args s m h hn
    obtain ⟨meth, c, h1, h2, h3, h4, h5, h6, -, -⟩ := Cond.code_spec hn (atoms_spec (ws := ws) h _ (by rw [hw]; exact List.mem_cons_self))
    exact ⟨meth, c, h1, h2, h3, h4, h5, h6⟩
  · intro p e s m args below meth c s₁ B hml hP _
    have hh0 : s₁.heap = s.heap := by rw [B.state]; rfl
    obtain ⟨t, a1, o, b1, b2, b3⟩ := body p e s m args below meth c s₁ B hml hP s₁ hh0 (Stand.of_body B)
    exact ⟨t, o, a1, b1, b2, ⟨b3.1, b3.2⟩⟩
theorem lg_sl_cz (ad : Nat → Nat) (vs : List Value) : (lg_sl (vs.map (cz ad))).length = (lg_sl vs).length := by
  induction vs with
  | nil => rfl
  | cons v t ih =>
    unfold lg_sl at ih ⊢
    simp only [List.map_cons, List.flatMap_cons, List.length_append, ih, cz_cat]
    split <;> rfl
theorem lv_args_cz (ad : Nat → Nat) (vs : List Value) (i : Nat) : lv_args i (vs.map (cz ad)) = czL ad (lv_args i vs) := by
  induction vs generalizing i with
  | nil => rfl
  | cons v t ih =>
    show (i, cz ad v) :: lv_args (if (cz ad v).category = 2 then i + 2 else i + 1) (t.map (cz ad)) = _
    rw [cz_cat, ih]; rfl
theorem lv_args_ok {n : Nat} {vs : List Value} (h : okS n vs) (i : Nat) : okL n (lv_args i vs) := by
  induction vs generalizing i with
  | nil => intro q hq; cases hq
  | cons v t ih =>
    intro q hq
    rcases List.mem_cons.mp hq with e | e
    · rw [e]; exact okS_h h
    · exact ih (okS_t h) _ q e
/-- the heap's picture in a state -/
def Pic (TX : (Nat → Prop) → State → Heap → Prop) (D : va_G) (ad : Nat → Nat) (cy : Nat → ClassId) (h : Hp) (sz : Nat) (U : State) : Prop :=
  U.heap.size = sz ∧ va_P D vwCl (Xw ad cy h) U.heap ∧ va_K D vwCl [] U ∧ NwOK U ∧ va_D (fun _ => True) (Xw ad cy h) ∧ (∀ k, k < hn h → 13 ≤ hK h k → ArrOfT U (cy k) (aty (hK h k)) ∧ va_RA U (cy k) (aty (hK h k))) ∧ TX (va_A (Xw ad cy h) sz) U U.heap
def Qic (D : va_G) (A : Nat → Prop) (ad : Nat → Nat) (h h' : Hp) (r : Option Value) : Array Value → State → Outcome → State → Prop := fun _ st o t =>
  (∃ (ad' : Nat → Nat) (cy' : Nat → ClassId), o = .returned (r.map (cz ad')) ∧ va_P D vwCl (Xw ad' cy' h') t.heap ∧ va_D A (Xw ad' cy' h') ∧ (∀ k, k < hn h' → 13 ≤ hK h' k → ArrOfT t (cy' k) (aty (hK h' k)) ∧ va_RA t (cy' k) (aty (hK h' k))) ∧ hOK h' ∧ AdR h h' ad ad' ∧ ∀ v, r = some v → okv (hn h') v) ∧ va_F A st t
def mws (x : MI) : List Cond := Cond.code x.1 x.2.1 x.2.2.1 x.2.2.2.1 :: GW
/-- where a method has thrown: its world -/
def Xic (D : va_G) (A : Nat → Prop) (ad : Nat → Nat) (h h' : Hp) : String → State → State → Prop := fun E st t =>
  E = RJxb5711 ∧ (∃ (ad' : Nat → Nat) (cy' : Nat → ClassId), va_P D vwCl (Xw ad' cy' h') t.heap ∧ va_D A (Xw ad' cy' h') ∧ (∀ k, k < hn h' → 13 ≤ hK h' k → ArrOfT t (cy' k) (aty (hK h' k)) ∧ va_RA t (cy' k) (aty (hK h' k))) ∧ hOK h' ∧ AdR h h' ad ad') ∧ va_F A st t
section METOF
variable {TX : (Nat → Prop) → State → Heap → Prop} {aS : Nat → Nat} {n : Nat} {d mj : Nat} {vs : List Value} {h h1 : Hp} {r : Option Value} {y : MI}
set_option maxHeartbeats 4000000 in
/-- a method's contract out of its run -/
theorem met_of (ih : Snd TX aS n) (hTP : TxP TX) (hlt : mj < 290) (hy : mInfo mj = some y) (hrn : rn n d mj 0 (lv_args 0 vs) [] h = some (r, h1)) (hthr : isThr r = false) (hlen : (lg_sl vs).length ≤ y.2.2.1) (hOk : hOK h) (hvs : okS (hn h) vs) (l : Launch) (hl0 : l.stackTraces = false) (D : va_G) (ad : Nat → Nat) (cy : Nat → ClassId) (sz : Nat) (hs : ∀ k, SB ≤ k → ad k = aS k) :
    Met l y.1 (mws y) { frames := d, cells := hn h1 - hn h, slots := hu h1 - hu h, locals := 60 * d } (va_Pc (vs.map (cz ad)) (Pic TX D ad cy h sz)) (Qic D (va_A (Xw ad cy h) sz) ad h h1 r) (hn h1 - hn h) (hu h1 - hu h) (va_A (Xw ad cy h) sz) := by
  obtain ⟨hcode, hini, ⟨hcls, hplain, hm1, hm2, hnl, hdesc, hna, hci, hinit, hkd⟩, -⟩ := mtl_ok y (mInfo_mem hlt hy)
  refine Met.ofWF (cc := y.2.1) (maxL := y.2.2.1) (ret := y.2.2.2.1) hplain rfl ?_
  intro p e s m args below meth c s₁ B hml hv
  have hxt := xt_of rfl B
  obtain ⟨rfl, hsz, hP, hK, hNw, hD0, hArr, hTX⟩ := hv
  have hts := atoms_spec (ws := mws y) B.pre
  have hown : s.vm.findClass (oNm y.2.2.2.2.1) = some m.cls := by rw [← hcls]; exact findClass_of_methodNamed B.named
  subst hsz
  have C : Cx p s m ((vs.map (cz ad)).toArray) meth c D (va_A (Xw ad cy h) s.heap.size) s.heap y :=
    ⟨B.exec, B.bytes, hml, hown, fun w hw => hts w (List.mem_cons_of_mem _ hw), hNw, B.returns, B.notSynchronized, fun h2 => by rw [(name_of_methodNamed B.named B.method).1]; exact (hinit h2).1, hK, fun q hq => Or.inr hq⟩
  have hl := lv_entry (vs.map (cz ad)) (n := y.2.2.1) (by rw [lg_sl_cz]; exact hlen)
  rw [lg_entry_eq]
  rw [lv_args_cz] at hl
  have key := ih d mj 0 (lv_args 0 vs) [] h r h1 hrn y hy p l e (headSpec (mws y) { frames := d, cells := hn h1 - hn h, slots := hu h1 - hu h, locals := 60 * d }).room s m _ below meth c D _ _ C ⟨fun _ => hxt, fun e => by omega⟩ ⟨hl0, rfl⟩ hTX (Nat.le_refl d) (Nat.le_refl (60 * d)) ad cy s.heap [] _ 0 0 (Qic D (va_A (Xw ad cy h) s.heap.size) ad h h1 r) (fun _ _ _ => False) (va_A (Xw ad cy h) s.heap.size) ⟨hP, hD0.self, va_S.rf, hArr, hOk⟩ hs hl (lv_args_ok hvs 0) (fun v hv => by cases hv) (by rw [Nat.zero_add]; exact Nat.le_refl (hn h1 - hn h)) (by rw [Nat.zero_add]; exact Nat.le_refl (hu h1 - hu h))
    (fun _ ad' cy' H' locs' t hw ht hW hAd hrv => ⟨⟨ad', cy', rfl, by rw [ht]; exact hw.1, hw.2.1, fun k hk h13 => ⟨arrOfT_moved hW.alike (hw.2.2.2.1 k hk h13).1, (hw.2.2.2.1 k hk h13).2.moved hW.alike⟩, hw.2.2.2.2, hAd, hrv⟩, hw.2.2.1.F ht⟩) (fun ht => by rw [hthr] at ht; cases ht) (fun _ q => q)
  rw [Nat.zero_add, Nat.zero_add] at key
  exact vx_noX key
set_option maxHeartbeats 4000000 in
/-- the contract of a call that throws -/
theorem metX_of (ih : Snd TX aS n) (hTP : TxP TX) (hlt : mj < 290) (hy : mInfo mj = some y) (hrn : rn n d mj 0 (lv_args 0 vs) [] h = some (r, h1)) (hthr : isThr r = true) (hlen : (lg_sl vs).length ≤ y.2.2.1) (hOk : hOK h) (hvs : okS (hn h) vs) (l : Launch) (hl0 : l.stackTraces = false) (D : va_G) (ad : Nat → Nat) (cy : Nat → ClassId) (sz : Nat) (hs : ∀ k, SB ≤ k → ad k = aS k) :
    vx_Met l y.1 (mws y) { frames := d, cells := hn h1 - hn h, slots := hu h1 - hu h, locals := 60 * d } (va_Pc (vs.map (cz ad)) (Pic TX D ad cy h sz)) (fun _ _ _ _ => False) (Xic D (va_A (Xw ad cy h) sz) ad h h1) (hn h1 - hn h) (hu h1 - hu h) (va_A (Xw ad cy h) sz) := by
  obtain ⟨hcode, hini, ⟨hcls, hplain, hm1, hm2, hnl, hdesc, hna, hci, hinit, hkd⟩, -⟩ := mtl_ok y (mInfo_mem hlt hy)
  refine vx_ofWF (cc := y.2.1) (maxL := y.2.2.1) (ret := y.2.2.2.1) hplain rfl ?_
  intro p e s m args below meth c s₁ B hml hv
  have hxt := xt_of rfl B
  obtain ⟨rfl, hsz, hP, hK, hNw, hD0, hArr, hTX⟩ := hv
  have hts := atoms_spec (ws := mws y) B.pre
  have hown : s.vm.findClass (oNm y.2.2.2.2.1) = some m.cls := by rw [← hcls]; exact findClass_of_methodNamed B.named
  subst hsz
  have C : Cx p s m ((vs.map (cz ad)).toArray) meth c D (va_A (Xw ad cy h) s.heap.size) s.heap y :=
    ⟨B.exec, B.bytes, hml, hown, fun w hw => hts w (List.mem_cons_of_mem _ hw), hNw, B.returns, B.notSynchronized, fun h2 => by rw [(name_of_methodNamed B.named B.method).1]; exact (hinit h2).1, hK, fun q hq => Or.inr hq⟩
  have hl := lv_entry (vs.map (cz ad)) (n := y.2.2.1) (by rw [lg_sl_cz]; exact hlen)
  rw [lg_entry_eq]
  rw [lv_args_cz] at hl
  have key := ih d mj 0 (lv_args 0 vs) [] h r h1 hrn y hy p l e (headSpec (mws y) { frames := d, cells := hn h1 - hn h, slots := hu h1 - hu h, locals := 60 * d }).room s m _ below meth c D _ _ C ⟨fun _ => hxt, fun e => by omega⟩ ⟨hl0, rfl⟩ hTX (Nat.le_refl d) (Nat.le_refl (60 * d)) ad cy s.heap [] _ 0 0 (fun _ _ _ _ => False) (Xic D (va_A (Xw ad cy h) s.heap.size) ad h h1) (va_A (Xw ad cy h) s.heap.size) ⟨hP, hD0.self, va_S.rf, hArr, hOk⟩ hs hl (lv_args_ok hvs 0) (fun v hv => by cases hv) (by rw [Nat.zero_add]; exact Nat.le_refl (hn h1 - hn h)) (by rw [Nat.zero_add]; exact Nat.le_refl (hu h1 - hu h))
    (fun ht => by rw [hthr] at ht; cases ht) (fun _ ad' cy' H' locs' t hw ht hW hAd => ⟨rfl, ⟨ad', cy', by rw [ht]; exact hw.1, hw.2.1, fun k hk h13 => ⟨arrOfT_moved hW (hw.2.2.2.1 k hk h13).1, (hw.2.2.2.1 k hk h13).2.moved hW⟩, hw.2.2.2.2, hAd⟩, hw.2.2.1.F ht⟩) (fun _ q => q)
  rw [Nat.zero_add, Nat.zero_add] at key
  exact key
end METOF
