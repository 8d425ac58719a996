theorem good_mws {y : MI} {mj : Nat} (hy : mInfC mj = some y) : GoodIn GW (mws y) := fun w hw => by
  have hcode := (mtl_ok y (mInfo_mem (mInfC_s hy).1 (mInfC_s hy).2)).1
  rcases List.mem_cons.mp hw with e | e
  · rw [e]; exact ⟨gw_in hcode rfl, good_of_word rfl⟩
  · exact ⟨e, good_of_word (List.mem_filter.mp e).2⟩
theorem va_A_sub {A : Nat → Prop} {ws : va_W} {H0 H : Heap} {locs : List Loc} (hD : va_D A ws) (hS : va_S A H0 H locs) (hA : ∀ q, H0.size ≤ q → A q) : ∀ q, va_A ws H.size q → A q := fun q hq => by
  rcases hq with ⟨k, e, hk⟩ | hq
  · exact hD.2 k _ hk
  · exact hA q (Nat.le_trans hS.1 hq)
theorem pic_blind {TX : (Nat → Prop) → State → Heap → Prop} (hTP : TxP TX) {D : va_G} {ad : Nat → Nat} {cy : Nat → ClassId} {h : Hp} {sz : Nat} {vs : List Value} : FrameBlind (va_Pc vs (Pic TX D ad cy h sz)) := fun a U g mk q => by
  obtain ⟨q0, q1, qP, qK, qN, qD, qA, qT⟩ := q
  exact ⟨q0, q1, qP, va_K.moved (u := U) (U := U.calling g mk a) (Vm.Alike.refl U.vm) qK, NwOK.same (u := U) (U := U.calling g mk a) rfl qN, qD, fun k hk h13 => ⟨arrOfT_moved (E := U.calling g mk a) (Vm.Alike.refl U.vm) (qA k hk h13).1, (qA k hk h13).2.moved (U := U.calling g mk a) (Vm.Alike.refl U.vm)⟩, hTP.1 _ U (U.calling g mk a) _ rfl qT⟩
theorem optmap_toList {α β : Type} (f : α → β) (r : Option α) : (r.map f).toList = r.toList.map f := by cases r <;> rfl
section SNM
variable {p : Program} {l : Launch} {e : Env} {R : Room} {s : State} {m : MethodId} {args : Array Value} {below : List Frame} {meth : Method} {c : Code} {H : Heap} {locs : List Loc} {cells slots : Nat} {Q : State → Prop}
variable {pc : Nat} {ls : Array Slot} {D : va_G} {A : Nat → Prop} {H0 : Heap} {x : MI} {ad : Nat → Nat} {cy : Nat → ClassId} {h : Hp}
set_option maxHeartbeats 8000000 in
theorem call_W {TX : (Nat → Prop) → State → Heap → Prop} {aS : Nat → Nat} {n : Nat} (ih : Snd TX aS n) (hTP : TxP TX) (C : Cx p s m args meth c D A H0 x) (hl0 : l.stackTraces = false) (hTX : TX A s H0) {d : Nat} (hfr : d ≤ R.frames) (hlo : 60 * d ≤ R.locals) (hw : Wd D s A H0 ad cy h H locs) (hs : ∀ k, SB ≤ k → ad k = aS k) (hsz : ls.size = x.2.2.1)
    {i : Instr} {ck idx mj : Nat} {y : MI} {st : List Value} {r : Option Value} {h1 : Hp} (hsk : sK i = some (ck, idx)) (hdec : decode x.2.1 pc = .ok (i, 3)) (hmlk : mlk x.2.2.2.2.1 idx = some mj) (hyc : mInfC mj = some y) (hc : cOK h ck d y st) (hcal : rn n (d - 1) mj 0 (lv_args 0 (st.take y.2.2.2.2.2.1).reverse) [] h = some (r, h1)) (hthr : isThr r = false) (hst : okS (hn h) st)
    (hrc : cells + (hn h1 - hn h) ≤ R.cells) (hrs : slots + (hu h1 - hu h) ≤ R.slots)
    (kk : ∀ ad1 cy1 H1 locs1, Wd D s A H0 ad1 cy1 h1 H1 locs1 → AdR h h1 ad ad1 → (∀ v, r = some v → okv (hn h1) v) → W p l e R s m args below meth c H1 locs1 (cells + (hn h1 - hn h)) (slots + (hu h1 - hu h)) Q (F0 m (pc + 3) ls (r.toList.map (cz ad1) ++ (st.drop y.2.2.2.2.2.1).map (cz ad)))) : W p l e R s m args below meth c H locs cells slots Q (F0 m pc ls (st.map (cz ad))) := by
  obtain ⟨hx, hb, hml, hown, hts, hnw, -, -, -, hK0, hAA⟩ := C
  obtain ⟨hck, hd0, hlen, hcat, hrcv, hlg⟩ := hc
  obtain ⟨hlt, hy⟩ := mInfC_s hyc
  obtain ⟨hcode, hini, ⟨hcls, hplain, hm1, hm2, hnl, hdesc, hna, hci, hinit, hkd⟩, hv0, hv1, hv2⟩ := mtl_ok y (mInfo_mem hlt hy)
  have hOk := hw.2.2.2.2
  have hvs : okS (hn h) (st.take y.2.2.2.2.2.1).reverse := fun v hv => hst v (List.mem_of_mem_take (List.mem_reverse.mp hv))
  have hsub := va_A_sub hw.2.1 hw.2.2.1 hAA
  have hM := met_of ih hTP hlt hy hcal hthr hlg hOk hvs l hl0 D ad cy H.size hs
  have hTXH : TX (va_A (Xw ad cy h) H.size) s H := hTP.2.2.2.1 _ _ _ _ (hTP.2.2.1 _ _ _ _ hTX hw.2.2.1.2.1) hsub
  have hPic : ∀ U : State, U.heap = H → s.WarmedH U.vm → Pic TX D ad cy h H.size U := fun U hU hW => by
    refine ⟨by rw [hU], by rw [hU]; exact hw.1, va_K.moved hW.alike hK0, NwOK.warm hW hnw, hw.2.1.weaken (fun _ _ _ _ => trivial), fun k hk h13 => ⟨arrOfT_moved hW.alike (hw.2.2.2.1 k hk h13).1, (hw.2.2.2.1 k hk h13).2.moved hW.alike⟩, ?_⟩
    rw [hU]; exact hTP.2.1 _ _ _ _ hW hTXH
  have hsplit : st.map (cz ad) = ((st.take y.2.2.2.2.2.1).reverse.map (cz ad)).reverse ++ (st.drop y.2.2.2.2.2.1).map (cz ad) := by
    rw [← List.map_reverse, List.reverse_reverse, ← List.map_append, List.take_append_drop]
  have hRoom : (d - 1) + 1 ≤ R.frames ∧ 8 + (y.2.2.1 + 11) + 60 * (d - 1) ≤ R.locals := ⟨by omega, by omega⟩
  have hcat' : 2 * (F0 m pc ls (st.map (cz ad))).monitorRoom + ((st.drop y.2.2.2.2.2.1).map (cz ad) |>.map fun v => v.category).sum ≤ 8 := by
    refine lv_room ?_
    rw [List.map_map]
    have : (fun v : Value => v.category) ∘ cz ad = fun v => v.category := funext fun v => cz_cat ad v
    rw [this]; exact hcat
  have fin : ∀ (hr : va_Run p l e R s m args below meth c H locs cells slots (hn h1 - hn h) (hu h1 - hu h) (F0 m pc ls (st.map (cz ad))) ((st.drop y.2.2.2.2.2.1).map (cz ad)) (Qic D (va_A (Xw ad cy h) H.size) ad h h1 r ((st.take y.2.2.2.2.2.1).reverse.map (cz ad)).toArray) (va_A (Xw ad cy h) H.size)), W p l e R s m args below meth c H locs cells slots Q (F0 m pc ls (st.map (cz ad))) := by
    intro hr
    refine callAny hr hw.2.2.1 (fun q _ hq => hsub q hq) hsub (fun _ _ _ hq => hq.2) (fun v st₀ t locs1 h0 hW hq hS1 => ?_)
    obtain ⟨⟨ad1, cy1, ho, hP1, hD1, hA1, hOk1, hAd, hrv⟩, -⟩ := hq
    have hvr : v = r.map (cz ad1) := Outcome.returned.inj ho
    subst hvr
    rw [optmap_toList]
    exact kk ad1 cy1 t.heap locs1 ⟨hP1, hD1.weaken (fun _ _ _ q => hsub _ q), hS1, fun k hk h13 => ⟨arrOfT_moved hW.alike.symm (hA1 k hk h13).1, (hA1 k hk h13).2.moved hW.alike.symm⟩, hOk1⟩ hAd hrv
  have hlink := (mTab_ok _ (lk_mem hmlk)).1 y hy
  have hD3 : y.1.cls ≠ "java/lang/invoke/MethodHandle" ∧ y.1.cls ≠ "java/lang/invoke/VarHandle" ∧ (parseMethodDescriptor y.1.desc).map (fun d => d.parameters.length) = some (if y.2.2.2.2.2.2 = 1 then y.2.2.2.2.2.1 else y.2.2.2.2.2.1 - 1) := ⟨hm1, hm2, hdesc⟩
  have hlenT : ((st.take y.2.2.2.2.2.1).reverse.map (cz ad)).length = y.2.2.2.2.2.1 := by
    rw [List.length_map, List.length_reverse, List.length_take]; omega
  have recv : rcv h y.2.2.2.2.1 st[y.2.2.2.2.2.1 - 1]? = true → 1 ≤ y.2.2.2.2.2.1 → ∃ (k : Nat) (As : List Value), (st.take y.2.2.2.2.2.1).reverse = .ref k :: As ∧ hK h k = ciO y.2.2.2.2.1 := by
    intro hrc hge
    unfold rcv at hrc
    split at hrc
    · rename_i k hk
      have htk : (st.take y.2.2.2.2.2.1)[y.2.2.2.2.2.1 - 1]? = some (.ref k) := by rw [List.getElem?_take_of_lt (by omega)]; exact hk
      have hh : (st.take y.2.2.2.2.2.1).reverse[0]? = some (.ref k) := by
        rw [List.getElem?_reverse (by rw [List.length_take]; omega), List.length_take]
        rw [show min y.2.2.2.2.2.1 st.length - 1 - 0 = y.2.2.2.2.2.1 - 1 by omega]
        exact htk
      cases hrev : (st.take y.2.2.2.2.2.1).reverse with
      | nil => rw [hrev] at hh; cases hh
      | cons v As =>
        rw [hrev] at hh
        cases hh
        exact ⟨k, As, rfl, by simpa using hrc⟩
    · cases hrc
  have hsize : (F0 m pc ls (st.map (cz ad))).locals.size = x.2.2.1 := hsz
  unfold sK at hsk
  split at hsk
  · -- a method of an object
    cases hsk
    have hk0 : y.2.2.2.2.2.2 = 0 := hck.symm
    obtain ⟨k, As, hrev, hKk⟩ := recv (hrcv.resolve_left (by omega)) (hna.resolve_left (by omega))
    have hcl := hci hk0
    cases hq : vwCl[ciO y.2.2.2.2.1]? with
    | none => rw [hq] at hcl; cases hcl
    | some q =>
      rw [hq] at hcl
      have hqc : q.1 = y.1.cls := Option.some.inj hcl
      have h13 : ciO y.2.2.2.2.1 < 13 := (List.getElem?_eq_some_iff.mp hq).1
      have hlt : k < hn h := hOK_lt hOk (by omega)
      have he : (Xw ad cy h)[k]? = some (ad k, .inr (ciO y.2.2.2.2.1, (List.range (nfl (hK h k))).map (fun i => cz ad (fvA h (hK h k) k i)))) := by rw [Xw_at hlt, cellA_obj (by omega), ← hKk]
      have hrc1 := va_recv hK0 hw.1 hq he
      rw [hqc] at hrc1
      have hAs : As.length = y.2.2.2.2.2.1 - 1 := by
        have := congrArg List.length hrev
        rw [List.length_reverse, List.length_take] at this
        simp at this; omega
      have hargs : ((st.take y.2.2.2.2.2.1).reverse.map (cz ad)) = .ref (ad k) :: As.map (cz ad) := by rw [hrev]; rfl
      have hstk : st.map (cz ad) = (As.map (cz ad)).reverse ++ .ref (ad k) :: (st.drop y.2.2.2.2.2.1).map (cz ad) := by
        rw [hsplit, hargs]; simp
      have hpre : PreV s H y.1.cls (ad k) (va_Pc ((st.take y.2.2.2.2.2.1).reverse.map (cz ad)) (Pic TX D ad cy h H.size)) (As.map (cz ad)) := ⟨pic_blind hTP, hrc1, fun U hU hW => ⟨by rw [hargs], hPic U hU hW⟩⟩
      have hn1 : (As.map (cz ad)).length = y.2.2.2.2.2.1 - 1 := by rw [List.length_map]; exact hAs
      rw [if_neg (by omega)] at hD3
      refine fin ?_
      rw [hargs]
      rcases hlink with hlink | ⟨host, hlink⟩
      · have hM' := hM
        exact va_runV (Ts := GW) ⟨hx, hb, hml, hown, hts⟩ hM ⟨callB_of (ws' := GW) (y.2.2.2.2.2.1 - 1) hts (good_mws hyc) rfl rfl rfl (hts _ (gw_in hini rfl)) (hts _ (gw_in hlink rfl)) hD3 hRoom, hts _ (gw_in (hv0 hk0).1 rfl), hts _ (gw_in (hv0 hk0).2 rfl)⟩ hpre rfl hn1 hsize hstk hcat' hdec ⟨hrc, hrs⟩
      · exact va_runVN (Ts := GW) ⟨hx, hb, hml, hown, hts⟩ hM ⟨va_cnB (ws' := GW) (y.2.2.2.2.2.1 - 1) hts (good_mws hyc) rfl rfl rfl (hnw _ (nw_in hlink rfl)) (hts _ (gw_in hini rfl)) hD3 hRoom, hts _ (gw_in (hv0 hk0).1 rfl), hts _ (gw_in (hv0 hk0).2 rfl)⟩ hpre rfl hn1 hsize hstk hcat' hdec ⟨hrc, hrs⟩
  · cases hsk
    have hk1 : y.2.2.2.2.2.2 = 1 := hck.symm
    rw [if_pos hk1] at hD3
    refine fin ?_
    have hpre : PreS s H (va_Pc ((st.take y.2.2.2.2.2.1).reverse.map (cz ad)) (Pic TX D ad cy h H.size)) ((st.take y.2.2.2.2.2.1).reverse.map (cz ad)) := ⟨pic_blind hTP, fun U hU hW => ⟨rfl, hPic U hU hW⟩⟩
    rcases hlink with hlink | ⟨host, hlink⟩
    · exact va_runS (Ts := GW) ⟨hx, hb, hml, hown, hts⟩ hM ⟨callB_of (ws' := GW) y.2.2.2.2.2.1 hts (good_mws hyc) rfl rfl rfl (hts _ (gw_in hini rfl)) (hts _ (gw_in hlink rfl)) hD3 hRoom, hts _ (gw_in (hv1 hk1) rfl)⟩ hpre rfl hlenT hsize hsplit hcat' hdec ⟨hrc, hrs⟩
    · exact va_runSN (Ts := GW) ⟨hx, hb, hml, hown, hts⟩ hM ⟨va_cnB (ws' := GW) y.2.2.2.2.2.1 hts (good_mws hyc) rfl rfl rfl (hnw _ (nw_in hlink rfl)) (hts _ (gw_in hini rfl)) hD3 hRoom, hts _ (gw_in (hv1 hk1) rfl), trivial⟩ hpre rfl hlenT hsize hsplit hcat' hdec ⟨hrc, hrs⟩
  · cases hsk
    have hk2 : y.2.2.2.2.2.2 = 2 := hck.symm
    obtain ⟨k, As, hrev, hKk⟩ := recv (hrcv.resolve_left (by omega)) (hna.resolve_left (by omega))
    have hAs : As.length = y.2.2.2.2.2.1 - 1 := by
      have := congrArg List.length hrev
      rw [List.length_reverse, List.length_take] at this
      simp at this; omega
    have hargs : ((st.take y.2.2.2.2.2.1).reverse.map (cz ad)) = .ref (ad k) :: As.map (cz ad) := by rw [hrev]; rfl
    have hstk : st.map (cz ad) = (As.map (cz ad)).reverse ++ .ref (ad k) :: (st.drop y.2.2.2.2.2.1).map (cz ad) := by
      rw [hsplit, hargs]; simp
    have hpre : PreS s H (va_Pc ((st.take y.2.2.2.2.2.1).reverse.map (cz ad)) (Pic TX D ad cy h H.size)) (.ref (ad k) :: As.map (cz ad)) := ⟨pic_blind hTP, fun U hU hW => ⟨by rw [hargs], hPic U hU hW⟩⟩
    have hn1 : (As.map (cz ad)).length = y.2.2.2.2.2.1 - 1 := by rw [List.length_map]; exact hAs
    rw [if_neg (by omega)] at hD3
    obtain ⟨hnm, hret⟩ := hinit hk2
    have hmw : mws y = Cond.code y.1 y.2.1 y.2.2.1 none :: GW := by unfold mws; rw [hret]
    refine fin ?_
    rw [hargs]
    rcases hlink with hlink | ⟨host, hlink⟩
    · exact va_runI (Ts := GW) ⟨hx, hb, hml, hown, hts⟩ hM ⟨callB_of (ws' := GW) (y.2.2.2.2.2.1 - 1) hts (good_mws hyc) hmw rfl rfl (hts _ (gw_in hini rfl)) (hts _ (gw_in hlink rfl)) hD3 hRoom, hnm, hts _ (gw_in (hv2 hk2) rfl)⟩ hpre rfl hn1 hsize hstk hcat' hdec ⟨hrc, hrs⟩
    · exact va_runIN (Ts := GW) ⟨hx, hb, hml, hown, hts⟩ hM ⟨va_cnB (ws' := GW) (y.2.2.2.2.2.1 - 1) hts (good_mws hyc) hmw rfl rfl (hnw _ (nw_in hlink rfl)) (hts _ (gw_in hini rfl)) hD3 hRoom, hnm, hts _ (gw_in (hv2 hk2) rfl)⟩ hpre rfl hn1 hsize hstk hcat' hdec ⟨hrc, hrs⟩
  · cases hsk
theorem thr_kd {o mj : Nat} {y : MI} (ht : thrOK o mj = true) (hy : mInfo mj = some y) : o = 13 ∧ y.2.2.2.2.2.2 = 0 ∧ y.2.2.2.2.1 = 13 := by
  unfold thrOK at ht
  rw [Bool.and_eq_true, beq_iff_eq, List.contains_iff_mem] at ht
  obtain ⟨h1, h2⟩ := ht
  refine ⟨h1, ?_⟩
  simp only [List.mem_cons, List.not_mem_nil, or_false] at h2
  rcases h2 with e | e | e | e | e <;> (subst e; cases hy; exact ⟨rfl, rfl⟩)
def THRL : List ((Nat × Nat) × Nat) := [((13, 257), 251), ((13, 261), 234), ((13, 271), 201), ((13, 274), 199), ((13, 395), 256)]
theorem thr_ls : ∀ e ∈ mTab, e.1.1 = 13 → e.2 ∈ [199, 201, 234, 251, 256] → e ∈ THRL := by decide +kernel
theorem thr_lk {idx mj : Nat} {y : MI} (ht : thrOK 13 mj = true) (hm : mlk 13 idx = some mj) (hy : mInfo mj = some y) : Cond.methodLink RX13 idx y.1 ∈ lw_tbl := by
  unfold thrOK at ht
  rw [Bool.and_eq_true, List.contains_iff_mem] at ht
  have h := thr_ls _ (lk_mem hm) rfl ht.2
  simp only [THRL, List.mem_cons, List.not_mem_nil, or_false, Prod.mk.injEq] at h
  rcases h with ⟨⟨-, e1⟩, e2⟩ | ⟨⟨-, e1⟩, e2⟩ | ⟨⟨-, e1⟩, e2⟩ | ⟨⟨-, e1⟩, e2⟩ | ⟨⟨-, e1⟩, e2⟩
  · subst e1; subst e2; cases hy; exact (tin_8 _ (List.mem_of_getElem? (i := 89) (by decide +kernel)))
  · subst e1; subst e2; cases hy; exact (tin_8 _ (List.mem_of_getElem? (i := 101) (by decide +kernel)))
  · subst e1; subst e2; cases hy; exact (tin_8 _ (List.mem_of_getElem? (i := 93) (by decide +kernel)))
  · subst e1; subst e2; cases hy; exact (tin_8 _ (List.mem_of_getElem? (i := 81) (by decide +kernel)))
  · subst e1; subst e2; cases hy; exact (tin_8 _ (List.mem_of_getElem? (i := 77) (by decide +kernel)))
set_option maxHeartbeats 8000000 in
/-- a call that throws: the frame with what is thrown over it -/
theorem call_T {TX : (Nat → Prop) → State → Heap → Prop} {aS : Nat → Nat} {n : Nat} (ih : Snd TX aS n) (hTP : TxP TX) (C : Cx p s m args meth c D A H0 x) (hl0 : l.stackTraces = false) (hTX : TX A s H0) {d : Nat} (hfr : d ≤ R.frames) (hlo : 60 * d ≤ R.locals) (hw : Wd D s A H0 ad cy h H locs) (hs : ∀ k, SB ≤ k → ad k = aS k) (hsz : ls.size = x.2.2.1)
    {i : Instr} {ck idx mj : Nat} {y : MI} {st : List Value} {r : Option Value} {h1 : Hp} (hsk : sK i = some (ck, idx)) (hdec : decode x.2.1 pc = .ok (i, 3)) (hmlk : mlk x.2.2.2.2.1 idx = some mj) (hyc : mInfC mj = some y) (hc : cOK h ck d y st) (hcal : rn n (d - 1) mj 0 (lv_args 0 (st.take y.2.2.2.2.2.1).reverse) [] h = some (r, h1)) (hthr : isThr r = true) (hto : thrOK x.2.2.2.2.1 mj = true) (hst : okS (hn h) st)
    (hrc : cells + (hn h1 - hn h) ≤ R.cells) (hrs : slots + (hu h1 - hu h) ≤ R.slots)
    (kk : ∀ ad1 cy1 H1 locs1 (q : Addr) (ce : Cell), Wd D s A H0 ad1 cy1 h1 H1 locs1 → AdR h h1 ad ad1 → H1[q]? = some ce → ce.vm = .none → s.vm.findClass RJxb5711 = some ce.cls → vx_W p l e R s m args below meth c H1 locs1 (cells + (hn h1 - hn h)) (slots + (hu h1 - hu h)) Q (F0 m pc ls ((st.drop y.2.2.2.2.2.1).map (cz ad))) q) : W p l e R s m args below meth c H locs cells slots Q (F0 m pc ls (st.map (cz ad))) := by
  obtain ⟨hx, hb, hml, hown, hts, hnw, -, -, -, hK0, hAA⟩ := C
  obtain ⟨hck, hd0, hlen, hcat, hrcv, hlg⟩ := hc
  obtain ⟨hlt, hy⟩ := mInfC_s hyc
  obtain ⟨hcode, hini, ⟨hcls, hplain, hm1, hm2, hnl, hdesc, hna, hci, hinit, hkd⟩, hv0, hv1, hv2⟩ := mtl_ok y (mInfo_mem hlt hy)
  obtain ⟨ho, hk0, -⟩ := thr_kd hto hy
  rw [ho] at hmlk hto
  have hlink := thr_lk hto hmlk hy
  have hOk := hw.2.2.2.2
  have hvs : okS (hn h) (st.take y.2.2.2.2.2.1).reverse := fun v hv => hst v (List.mem_of_mem_take (List.mem_reverse.mp hv))
  have hsub := va_A_sub hw.2.1 hw.2.2.1 hAA
  have hM := metX_of ih hTP hlt hy hcal hthr hlg hOk hvs l hl0 D ad cy H.size hs
  have hTXH : TX (va_A (Xw ad cy h) H.size) s H := hTP.2.2.2.1 _ _ _ _ (hTP.2.2.1 _ _ _ _ hTX hw.2.2.1.2.1) hsub
  have hPic : ∀ U : State, U.heap = H → s.WarmedH U.vm → Pic TX D ad cy h H.size U := fun U hU hW => by
    refine ⟨by rw [hU], by rw [hU]; exact hw.1, va_K.moved hW.alike hK0, NwOK.warm hW hnw, hw.2.1.weaken (fun _ _ _ _ => trivial), fun k hk h13 => ⟨arrOfT_moved hW.alike (hw.2.2.2.1 k hk h13).1, (hw.2.2.2.1 k hk h13).2.moved hW.alike⟩, ?_⟩
    rw [hU]; exact hTP.2.1 _ _ _ _ hW hTXH
  have hsplit : st.map (cz ad) = ((st.take y.2.2.2.2.2.1).reverse.map (cz ad)).reverse ++ (st.drop y.2.2.2.2.2.1).map (cz ad) := by
    rw [← List.map_reverse, List.reverse_reverse, ← List.map_append, List.take_append_drop]
  have hRoom : (d - 1) + 1 ≤ R.frames ∧ 8 + (y.2.2.1 + 11) + 60 * (d - 1) ≤ R.locals := ⟨by omega, by omega⟩
  have hcat' : 2 * (F0 m pc ls (st.map (cz ad))).monitorRoom + ((st.drop y.2.2.2.2.2.1).map (cz ad) |>.map fun v => v.category).sum ≤ 8 := by
    refine lv_room ?_
    rw [List.map_map]
    have : (fun v : Value => v.category) ∘ cz ad = fun v => v.category := funext fun v => cz_cat ad v
    rw [this]; exact hcat
  have fin : ∀ (hr : vx_Run p l e R s m args below meth c H locs cells slots (hn h1 - hn h) (hu h1 - hu h) (F0 m pc ls (st.map (cz ad))) ((st.drop y.2.2.2.2.2.1).map (cz ad)) (fun _ _ _ => False) (Xic D (va_A (Xw ad cy h) H.size) ad h h1) (va_A (Xw ad cy h) H.size)), W p l e R s m args below meth c H locs cells slots Q (F0 m pc ls (st.map (cz ad))) := by
    intro hr
    refine callX hr hw.2.2.1 (fun q _ hq => hsub q hq) hsub (fun _ _ _ hq => hq.2.2) (fun q st₀ t locs1 E ce h0 hW hq hce hcv hcl hS1 => ?_)
    obtain ⟨hE, ⟨ad1, cy1, hP1, hD1, hA1, hOk1, hAd⟩, -⟩ := hq
    subst hE
    exact kk ad1 cy1 t.heap locs1 q ce ⟨hP1, hD1.weaken (fun _ _ _ q => hsub _ q), hS1, fun k hk h13 => ⟨arrOfT_moved hW.alike.symm (hA1 k hk h13).1, (hA1 k hk h13).2.moved hW.alike.symm⟩, hOk1⟩ hAd hce hcv hcl
  have hD3 : y.1.cls ≠ "java/lang/invoke/MethodHandle" ∧ y.1.cls ≠ "java/lang/invoke/VarHandle" ∧ (parseMethodDescriptor y.1.desc).map (fun d => d.parameters.length) = some (if y.2.2.2.2.2.2 = 1 then y.2.2.2.2.2.1 else y.2.2.2.2.2.1 - 1) := ⟨hm1, hm2, hdesc⟩
  have recv : rcv h y.2.2.2.2.1 st[y.2.2.2.2.2.1 - 1]? = true → 1 ≤ y.2.2.2.2.2.1 → ∃ (k : Nat) (As : List Value), (st.take y.2.2.2.2.2.1).reverse = .ref k :: As ∧ hK h k = ciO y.2.2.2.2.1 := by
    intro hrc hge
    unfold rcv at hrc
    split at hrc
    · rename_i k hk
      have htk : (st.take y.2.2.2.2.2.1)[y.2.2.2.2.2.1 - 1]? = some (.ref k) := by rw [List.getElem?_take_of_lt (by omega)]; exact hk
      have hh : (st.take y.2.2.2.2.2.1).reverse[0]? = some (.ref k) := by
        rw [List.getElem?_reverse (by rw [List.length_take]; omega), List.length_take]
        rw [show min y.2.2.2.2.2.1 st.length - 1 - 0 = y.2.2.2.2.2.1 - 1 by omega]
        exact htk
      cases hrev : (st.take y.2.2.2.2.2.1).reverse with
      | nil => rw [hrev] at hh; cases hh
      | cons v As =>
        rw [hrev] at hh
        cases hh
        exact ⟨k, As, rfl, by simpa using hrc⟩
    · cases hrc
  have hsize : (F0 m pc ls (st.map (cz ad))).locals.size = x.2.2.1 := hsz
  have hi : i = .invokevirtual idx := by
    unfold sK at hsk
    split at hsk <;> cases hsk
    · rfl
    · omega
    · omega
  rw [hi] at hdec
  obtain ⟨k, As, hrev, hKk⟩ := recv (hrcv.resolve_left (by omega)) (hna.resolve_left (by omega))
  have hcl := hci hk0
  cases hq : vwCl[ciO y.2.2.2.2.1]? with
  | none => rw [hq] at hcl; cases hcl
  | some q =>
    rw [hq] at hcl
    have hqc : q.1 = y.1.cls := Option.some.inj hcl
    have h13 : ciO y.2.2.2.2.1 < 13 := (List.getElem?_eq_some_iff.mp hq).1
    have hlt : k < hn h := hOK_lt hOk (by omega)
    have he : (Xw ad cy h)[k]? = some (ad k, .inr (ciO y.2.2.2.2.1, (List.range (nfl (hK h k))).map (fun i => cz ad (fvA h (hK h k) k i)))) := by rw [Xw_at hlt, cellA_obj (by omega), ← hKk]
    have hrc1 := va_recv hK0 hw.1 hq he
    rw [hqc] at hrc1
    have hAs : As.length = y.2.2.2.2.2.1 - 1 := by
      have := congrArg List.length hrev
      rw [List.length_reverse, List.length_take] at this
      simp at this; omega
    have hargs : ((st.take y.2.2.2.2.2.1).reverse.map (cz ad)) = .ref (ad k) :: As.map (cz ad) := by rw [hrev]; rfl
    have hstk : st.map (cz ad) = (As.map (cz ad)).reverse ++ .ref (ad k) :: (st.drop y.2.2.2.2.2.1).map (cz ad) := by
      rw [hsplit, hargs]; simp
    have hpre : PreV s H y.1.cls (ad k) (va_Pc ((st.take y.2.2.2.2.2.1).reverse.map (cz ad)) (Pic TX D ad cy h H.size)) (As.map (cz ad)) := ⟨pic_blind hTP, hrc1, fun U hU hW => ⟨by rw [hargs], hPic U hU hW⟩⟩
    have hn1 : (As.map (cz ad)).length = y.2.2.2.2.2.1 - 1 := by rw [List.length_map]; exact hAs
    rw [if_neg (by omega)] at hD3
    refine fin ?_
    rw [ho] at hown
    exact vx_runV (Ts := GW) ⟨hx, hb, hml, hown, hts⟩ hM ⟨callB_of (ws' := GW) (y.2.2.2.2.2.1 - 1) hts (good_mws hyc) rfl rfl rfl (hts _ (gw_in hini rfl)) (hts _ (gw_in hlink rfl)) hD3 hRoom, hts _ (gw_in (hv0 hk0).1 rfl), hts _ (gw_in (hv0 hk0).2 rfl)⟩ hpre rfl hn1 hsize hstk hcat' hdec ⟨hrc, hrs⟩
end SNM
