/-! THE LAW: its walk, out of what holds of each call -/
theorem Met.ofWH {l : Launch} {y : MethodName} {ws ws' : List Cond} {rm : Room} {Pc : Array Value → State → Prop} {Qc : Array Value → State → Outcome → State → Prop} {mc ms : Nat} {free : Addr → Prop} {cc : ByteArray} {maxL : Nat} {ret : Option FieldType} {hh : List (Nat × Nat × Nat × Nat)}
    (hy : plainName y.cls = true) (hw : ws = Cond.codeWith y cc maxL ret hh :: ws')
    (body : ∀ p e s m args below meth c s₁, BodyLoose p l y (headSpec ws rm) cc maxL ret e s m args below meth c s₁ → c.maxLocals = maxL → Pc args s →
      W p l e (headSpec ws rm).room s m args below meth c s.heap [] 0 0 (MQ below Qc args s mc ms free) (entryFrame m args maxL)) : Met l y ws rm Pc Qc mc ms free := by
  refine MetFree.of_bodyS (code := cc) (maxLocals := maxL) (ret := ret) hy ?_ ?_
  · intro args s m h hn
    obtain ⟨m9, meth, c, hn9, h1, h2, h3, h4, -, h5, h6, -⟩ := Cond.codeWith_spec (atoms_spec (ws := ws) h _ (by rw [hw]; exact List.mem_cons_self))
    cases hn.symm.trans hn9
    exact ⟨meth, c, h1, h2, h3, h4, h5, h6⟩
  · intro p e s m args below meth c s₁ B hml hP _
    have hh0 : s₁.heap = s.heap := by rw [B.state]; rfl
    obtain ⟨t, a1, o, b1, b2, b3⟩ := body p e s m args below meth c s₁ B hml hP s₁ hh0 (Stand.of_body B)
    exact ⟨t, o, a1, b1, b2, ⟨b3.1, b3.2⟩⟩
def bws : List Cond := Cond.codeWith yX13_build cX13_build 3 (some .int) [(81, 89, 92, 30)] :: GW
theorem good_bws : GoodIn GW bws := fun w hw => by
  rcases List.mem_cons.mp hw with e | e
  · rw [e]; exact ⟨gw_in bld_ok.1 rfl, good_of_word rfl⟩
  · exact ⟨e, good_of_word (List.mem_filter.mp e).2⟩
section BLD
variable {TX : (Nat → Prop) → State → Heap → Prop} {aS : Nat → Nat} {n : Nat} {d : Nat} {vs : List Value} {h h1 : Hp} {r : Option Value}
set_option maxHeartbeats 4000000 in
theorem bld_met (ih : Snd TX aS n) (hTP : TxP TX) (hrn : rn n d 290 0 (lv_args 0 vs) [] h = some (r, h1)) (hthr : isThr r = false) (hlen : (lg_sl vs).length ≤ 3) (hOk : hOK h) (hvs : okS (hn h) vs) (l : Launch) (hl0 : l.stackTraces = false) (D : va_G) (ad : Nat → Nat) (cy : Nat → ClassId) (sz : Nat) (hs : ∀ k, SB ≤ k → ad k = aS k) :
    Met l yX13_build bws { frames := d, cells := hn h1 - hn h, slots := hu h1 - hu h, locals := 60 * d } (va_Pc (vs.map (cz ad)) (Pic TX D ad cy h sz)) (Qic D (va_A (Xw ad cy h) sz) ad h h1 r) (hn h1 - hn h) (hu h1 - hu h) (va_A (Xw ad cy h) sz) := by
  refine Met.ofWH (cc := cX13_build) (maxL := 3) (ret := some .int) (by decide) rfl ?_
  intro p e s m args below meth c s₁ B hml hv
  obtain ⟨rfl, hsz, hP, hK, hNw, hD0, hArr, hTX⟩ := hv
  have hts := atoms_spec (ws := bws) B.pre
  have hxt := vx_table (y := yX13_build) (hh := [(81, 89, 92, 30)]) (bytes := cX13_build) (maxL' := 3) (ret' := some .int) (x := yX13_build) (cc := cX13_build) B (hts _ List.mem_cons_self)
  have hown : s.vm.findClass (oNm 13) = some m.cls := findClass_of_methodNamed B.named
  subst hsz
  have C : Cx p s m ((vs.map (cz ad)).toArray) meth c D (va_A (Xw ad cy h) s.heap.size) s.heap bldMI :=
    ⟨B.exec, B.bytes, hml, hown, fun w hw => hts w (List.mem_cons_of_mem _ hw), hNw, B.returns, B.notSynchronized, fun h2 => absurd h2 (by decide), hK, fun q hq => Or.inr hq⟩
  have hl := lv_entry (vs.map (cz ad)) (n := 3) (by rw [lg_sl_cz]; exact hlen)
  rw [lg_entry_eq]
  rw [lv_args_cz] at hl
  have key := ih d 290 0 (lv_args 0 vs) [] h r h1 hrn bldMI rfl p l e (headSpec bws { frames := d, cells := hn h1 - hn h, slots := hu h1 - hu h, locals := 60 * d }).room s m _ below meth c D _ _ C ⟨fun e => absurd e (by decide), fun _ => hxt⟩ ⟨hl0, rfl⟩ hTX (Nat.le_refl d) (Nat.le_refl (60 * d)) ad cy s.heap [] _ 0 0 (Qic D (va_A (Xw ad cy h) s.heap.size) ad h h1 r) (fun _ _ _ => False) (va_A (Xw ad cy h) s.heap.size) ⟨hP, hD0.self, va_S.rf, hArr, hOk⟩ hs hl (lv_args_ok hvs 0) (fun v hv => by cases hv) (by rw [Nat.zero_add]; exact Nat.le_refl (hn h1 - hn h)) (by rw [Nat.zero_add]; exact Nat.le_refl (hu h1 - hu h))
    (fun _ ad' cy' H' locs' t hw ht hW hAd hrv => ⟨⟨ad', cy', rfl, by rw [ht]; exact hw.1, hw.2.1, fun k hk h13 => ⟨arrOfT_moved hW.alike (hw.2.2.2.1 k hk h13).1, (hw.2.2.2.1 k hk h13).2.moved hW.alike⟩, hw.2.2.2.2, hAd, hrv⟩, hw.2.2.1.F ht⟩) (fun ht => by rw [hthr] at ht; cases ht) (fun _ q => q)
  rw [Nat.zero_add, Nat.zero_add] at key
  exact vx_noX key
end BLD
section LAWC
variable {p : Program} {l : Launch} {e : Env} {R : Room} {s : State} {m : MethodId} {args : Array Value} {below : List Frame} {meth : Method} {c : Code} {H : Heap} {locs : List Loc} {cells slots : Nat} {Q : State → Prop}
variable {pc : Nat} {ls : Array Slot} {D : va_G} {A : Nat → Prop} {H0 : Heap} {ad : Nat → Nat} {cy : Nat → ClassId} {h : Hp}
set_option maxHeartbeats 8000000 in
/-- the law calls the reference's build -/
theorem call_B {TX : (Nat → Prop) → State → Heap → Prop} {aS : Nat → Nat} {n : Nat} (ih : Snd TX aS n) (hTP : TxP TX) (C : Cx p s m args meth c D A H0 lawMI) (hl0 : l.stackTraces = false) (hTX : TX A s H0) {d : Nat} (hd0 : 0 < d) (hfr : d ≤ R.frames) (hlo : 60 * d ≤ R.locals) (hw : Wd D s A H0 ad cy h H locs) (hs : ∀ k, SB ≤ k → ad k = aS k) (hsz : ls.size = 4)
    {k : Nat} {v : Value} {rest : List Value} {r : Option Value} {h1 : Hp} (hk : hK h k = 12) (hcatv : v.category = 1) (hv : okv (hn h) v) (hcat : (rest.map fun v => v.category).sum ≤ 8) (hdec : decode cL_law pc = .ok (.invokevirtual 22, 3)) (hcal : rn n (d - 1) 290 0 (lv_args 0 [.ref k, v]) [] h = some (r, h1)) (hthr : isThr r = false)
    (hrc : cells + (hn h1 - hn h) ≤ R.cells) (hrs : slots + (hu h1 - hu h) ≤ R.slots)
    (kk : ∀ ad1 cy1 H1 locs1, Wd D s A H0 ad1 cy1 h1 H1 locs1 → AdR h h1 ad ad1 → (∀ v, r = some v → okv (hn h1) v) → W p l e R s m args below meth c H1 locs1 (cells + (hn h1 - hn h)) (slots + (hu h1 - hu h)) Q (F0 m (pc + 3) ls (r.toList.map (cz ad1) ++ rest))) : W p l e R s m args below meth c H locs cells slots Q (F0 m pc ls (cz ad v :: .ref (ad k) :: rest)) := by
  obtain ⟨hx, hb, hml, hown, hts, hnw, -, -, -, hK0, hAA⟩ := C
  have hOk := hw.2.2.2.2
  have hlt : k < hn h := hOK_lt hOk (by omega)
  have hvs : okS (hn h) [.ref k, v] := fun z hz => by
    rcases List.mem_cons.mp hz with e | e
    · subst e; intro q hq; cases hq; exact Or.inl hlt
    · rcases List.mem_cons.mp e with e | e
      · subst e; exact hv
      · cases e
  have hsub := va_A_sub hw.2.1 hw.2.2.1 hAA
  have hlg : (lg_sl [.ref k, v]).length ≤ 3 := by
    unfold lg_sl
    simp only [List.flatMap_cons, List.flatMap_nil, hcatv]
    exact Nat.le_of_ble_eq_true rfl
  have hM := bld_met ih hTP hcal hthr hlg hOk hvs l hl0 D ad cy H.size hs
  have hTXH : TX (va_A (Xw ad cy h) H.size) s H := hTP.2.2.2.1 _ _ _ _ (hTP.2.2.1 _ _ _ _ hTX hw.2.2.1.2.1) hsub
  have hPic : ∀ U : State, U.heap = H → s.WarmedH U.vm → Pic TX D ad cy h H.size U := fun U hU hW => by
    refine ⟨by rw [hU], by rw [hU]; exact hw.1, va_K.moved hW.alike hK0, NwOK.warm hW hnw, hw.2.1.weaken (fun _ _ _ _ => trivial), fun k hk h13 => ⟨arrOfT_moved hW.alike (hw.2.2.2.1 k hk h13).1, (hw.2.2.2.1 k hk h13).2.moved hW.alike⟩, ?_⟩
    rw [hU]; exact hTP.2.1 _ _ _ _ hW hTXH
  have he : (Xw ad cy h)[k]? = some (ad k, .inr (12, (List.range (nfl (hK h k))).map (fun i => cz ad (fvA h (hK h k) k i)))) := by rw [Xw_at hlt, cellA_obj (by omega), ← hk]
  have hrc1 := va_recv hK0 hw.1 (q := (RX13, TX13, 72)) rfl he
  have hpre : PreV s H yX13_build.cls (ad k) (va_Pc ([.ref k, v].map (cz ad)) (Pic TX D ad cy h H.size)) [cz ad v] := ⟨pic_blind hTP, hrc1, fun U hU hW => ⟨rfl, hPic U hU hW⟩⟩
  have hr := vx_runVW (p := p) (l := l) (e := e) (R := R) (s := s) (m := m) (args := args) (below := below) (meth := meth) (c := c) (H := H) (locs := locs) (cells := cells) (slots := slots) (Ts := GW) (cc := cL_law) (nL := 4) (own := RL) (C := yX13_build.cls) (index := 22) (bytes := cX13_build) (maxL := 3) (ret := some .int) (hh := [(81, 89, 92, 30)]) (n := 1) (g := F0 m pc ls (cz ad v :: .ref (ad k) :: rest)) (rest := rest) (As := [cz ad v]) (b := ad k) ⟨hx, hb, hml, hown, hts⟩ hM
    ⟨⟨rfl, rfl, by show (d - 1) + 1 ≤ _; omega, by show 8 + (3 + 11) + 60 * (d - 1) ≤ _; omega, pay_in hts good_bws, List.mem_cons_self⟩, hts _ (gw_in bld_ok.1 rfl), hts _ (gw_in bld_ok.2.1 rfl), ⟨by decide, by decide⟩, fun sig h => by
      have h2 : (parseMethodDescriptor yX13_build.desc).map (fun d => d.parameters.length) = some 1 := by decide
      rw [h] at h2
      exact (Option.some.inj h2).symm, hts _ (gw_in bld_ok.2.2.2.2 rfl), hts _ (gw_in bld_ok.2.2.1 rfl), hts _ (gw_in bld_ok.2.2.2.1 rfl)⟩ hpre rfl rfl hsz rfl (lv_room hcat) hdec ⟨hrc, hrs⟩
  refine callAny hr hw.2.2.1 (fun q _ hq => hsub q hq) hsub (fun _ _ _ hq => hq.2) (fun v9 st₀ t locs1 h0 hW hq hS1 => ?_)
  obtain ⟨⟨ad1, cy1, ho, hP1, hD1, hA1, hOk1, hAd, hrv⟩, -⟩ := hq
  have hvr : v9 = r.map (cz ad1) := Outcome.returned.inj ho
  subst hvr
  rw [optmap_toList]
  exact kk ad1 cy1 t.heap locs1 ⟨hP1, hD1.weaken (fun _ _ _ q => hsub _ q), hS1, fun k hk h13 => ⟨arrOfT_moved hW.alike.symm (hA1 k hk h13).1, (hA1 k hk h13).2.moved hW.alike.symm⟩, hOk1⟩ hAd hrv
end LAWC
