theorem vat_kept {D : va_G} {cl : List vw_C} {q : Nat × va_E} {H H1 : Heap} (h : va_at D cl q H) (h1 : H1[q.1]? = H[q.1]?) : va_at D cl q H1 := by
  unfold va_at at h ⊢
  split at h
  · rename_i a ha
    rw [h1]; exact h
  · rename_i o ho
    obtain ⟨r, e1, e2⟩ := h
    exact ⟨r, e1, e2.kept h1⟩
theorem wd_new0 {D : va_G} {s : State} {A : Nat → Prop} {ad : Nat → Nat} {cy : Nat → ClassId} {h : Hp} {H H' : Heap} {locs locs' : List Loc} {ce : Cell} (hw : Wd D s A s.heap ad cy h H locs) (hK0 : va_K D vwCl [] s) (hAA : ∀ q, s.heap.size ≤ q → A q) (hn0 : hn h < SB)
    (s2 : ∀ q : Nat, q < H.size → H'[q]? = H[q]?) (s3 : H'[H.size]? = some ce) (s4 : ce.vm = .none) (s5 : s.vm.findClass RJxb5711 = some ce.cls) (s6 : va_S A s.heap H' locs') : Wd D s A s.heap (va_up ad (hn h) H.size) (va_up cy (hn h) 0) (nO h 0 6) H' locs' := by
  obtain ⟨hP, hD, hS, hArr, hOk⟩ := hw
  have e1 : hn (nO h 0 6) = hn h + 1 := rfl
  have hKn : hK (nO h 0 6) (hn h) = 0 := up1_eq
  have hold : ∀ j, j < hn h → cellA (va_up ad (hn h) H.size) (va_up cy (hn h) 0) (nO h 0 6) j = cellA ad cy h j := by
    intro j hj
    have hne : j ≠ hn h := Nat.ne_of_lt hj
    unfold cellA
    rw [show hK (nO h 0 6) j = hK h j from up1_ne hne, up1_ne (f := cy) hne]
    have hz : ∀ i, cz (va_up ad (hn h) H.size) (fvA (nO h 0 6) (hK h j) j i) = cz ad (fvA h (hK h j) j i) := fun i => by
      rw [fvA_eq (h := h) (h' := nO h 0 6) (congrFun (up1_ne hne) i) (congrFun (up1_ne hne) i) (congrFun (up1_ne hne) i)]
      exact cz_up (okv_fvA hOk _ _ _) hn0
    simp only [hz]
    rfl
  have hself : cellA (va_up ad (hn h) H.size) (va_up cy (hn h) 0) (nO h 0 6) (hn h) = .inr (0, []) := by
    rw [cellA_obj (by rw [hKn]; decide), hKn]
    rfl
  have hXw := Xw_push (ad := ad) (cy := cy) (h := h) (h' := nO h 0 6) (q := H.size) (cA := 0) e1 hold hself
  have hlt : ∀ (k : Nat) (q : Nat × va_E), (Xw ad cy h)[k]? = some q → q.1 < H.size := fun k q hk => (hP k q hk).lt
  refine ⟨?_, ?_, s6, ?_, ?_⟩
  · rw [hXw]
    intro k q hk
    rw [List.getElem?_append] at hk
    split at hk
    · exact vat_kept (hP k q hk) (s2 _ (hlt k q hk))
    · have hq : q = (H.size, .inr (0, [])) := by
        cases hz : k - (Xw ad cy h).length with
        | zero => rw [hz] at hk; exact (Option.some.inj hk).symm
        | succ n => rw [hz] at hk; cases hk
      subst hq
      refine ⟨_, rfl, ce, s3, ?_, s4, fun k hk => absurd hk (Nat.not_lt_zero k)⟩
      have := (hK0.1 0 _ rfl).2.1
      exact Option.some.inj (s5.symm.trans this)
  · rw [hXw]
    refine ⟨fun i j a b ha hb hab => ?_, fun k q hk => ?_⟩
    · rw [List.getElem?_append] at ha hb
      split at ha
      · split at hb
        · exact hD.1 i j a b ha hb hab
        · have hb' : b.1 = H.size := by
            cases hz : j - (Xw ad cy h).length with
            | zero => rw [hz] at hb; exact (congrArg Prod.fst (Option.some.inj hb)).symm
            | succ n => rw [hz] at hb; cases hb
          have := hlt i a ha
          omega
      · have ha' : a.1 = H.size ∧ i = (Xw ad cy h).length := by
          cases hz : i - (Xw ad cy h).length with
          | zero => rw [hz] at ha; exact ⟨(congrArg Prod.fst (Option.some.inj ha)).symm, by omega⟩
          | succ n => rw [hz] at ha; cases ha
        split at hb
        · have := hlt j b hb
          omega
        · have hb' : j = (Xw ad cy h).length := by
            cases hz : j - (Xw ad cy h).length with
            | zero => omega
            | succ n => rw [hz] at hb; cases hb
          omega
    · rw [List.getElem?_append] at hk
      split at hk
      · exact hD.2 k q hk
      · have hq : q.1 = H.size := by
          cases hz : k - (Xw ad cy h).length with
          | zero => rw [hz] at hk; exact (congrArg Prod.fst (Option.some.inj hk)).symm
          | succ n => rw [hz] at hk; cases hk
        rw [hq]; exact hAA _ hS.1
  · intro k hk h13'
    rw [e1] at hk
    by_cases hkn : k = hn h
    · subst hkn; rw [hKn] at h13'; omega
    · rw [show hK (nO h 0 6) k = hK h k from up1_ne hkn] at h13' ⊢
      rw [up1_ne (f := cy) hkn]
      exact hArr k (by omega) h13'
  · refine ⟨fun k hk => ?_, fun k hk => ?_, fun k i r hr => ?_, ?_⟩
    · rw [e1] at hk
      rw [show hK (nO h 0 6) k = hK h k from up1_ne (by omega)]
      exact hOk.1 k (by omega)
    · rw [e1] at hk
      by_cases hkn : k = hn h
      · subst hkn; rw [hKn]; omega
      · rw [show hK (nO h 0 6) k = hK h k from up1_ne hkn]; exact hOk.2.1 k (by omega)
    · rw [e1]
      by_cases hkn : k = hn h
      · subst hkn
        rw [show hR (nO h 0 6) (hn h) i = none from congrFun up1_eq i] at hr
        cases hr
      · rw [show hR (nO h 0 6) k i = hR h k i from congrFun (up1_ne hkn) i] at hr
        have := hOk.2.2.1 k i r hr
        omega
    · rw [e1]; exact hn0
/-! the instructions of sX are sound -/
theorem sx_cat {ad : Nat → Nat} {r : List Value} (h : catS r ≤ 8) : ((r.map (cz ad)).map fun v => v.category).sum ≤ 8 := by
  rw [List.map_map]
  have : (fun v : Value => v.category) ∘ cz ad = fun v => v.category := funext fun v => cz_cat ad v
  rw [this]; exact h
theorem sx_sk {k : Nat} (h1 : SB ≤ k) (h2 : k < SB + 5) : ∃ i, i < 5 ∧ k = SB + i := ⟨k - SB, by omega, by omega⟩
theorem sx_ls : ∀ e ∈ sTab, e.2 < 6 ∧ oNm e.1.1 = (sOw e.2).1 ∧ e.1.2 = (sOw e.2).2 := by decide +kernel
theorem w217 : mInfo 217 = some (yX13_init, cX13_init, 1, none, 13, 1, 2) := rfl
set_option maxHeartbeats 8000000 in
theorem sxok (aS : Nat → Nat) : SXOK (TXX aS) aS := by
  intro p l e R s m args below meth c H locs cells slots Q pc ls D A H0 x ad cy h i st st' mi len ln d h' hx C hLS hTX hw hs hsx hdec hln hst hd hfr hlo hsz hrc hrs kk
  obtain ⟨hl0, rfl⟩ := hLS
  obtain ⟨hxx, hb, hml, hown, hts, hnw, -, -, -, hK0, hAA⟩ := C
  have hTH : TXX aS (fun q => H.size ≤ q) s H := (txp aS).2.2.2.1 _ _ _ _ ((txp aS).2.2.1 _ _ _ _ hTX hw.2.2.1.2.1) (fun q hq => hAA q (Nat.le_trans hw.2.2.1.1 hq))
  have S : CallFix p m c x.2.1 x.2.2.1 s args GW (oNm x.2.2.2.2.1) := ⟨hxx, hb, hml, hown, hts⟩
  unfold sX at hsx
  split at hsx
  · -- getstatic WORD
    rename_i idx
    split at hsx <;> cases hsx
    rename_i hc
    obtain ⟨ho, rfl⟩ := hc
    have hl3 : len = 3 := hln.resolve_right (by decide)
    subst hl3
    rw [ho] at hown
    refine va_gets hxx hb hTX.1.2.1 hw.2.2.1 hown (hts _ (gw_in jf_word rfl)) (fun _ q => q) hdec ?_
    have := kk.same hw rfl rfl
    rw [List.map_cons] at this
    rw [← hs (SB + 100) (Nat.le_add_right _ _)]
    exact this
  · -- WORD[i]
    split at hsx
    · rename_i xi k r
      split at hsx <;> cases hsx
      rename_i hc
      obtain ⟨hk, h0, h1⟩ := hc
      subst hk
      have hl3 : len = 1 := hln.resolve_right (by decide)
      subst hl3
      have := kk.same hw rfl rfl
      rw [List.map_cons] at this
      rw [List.map_cons, List.map_cons]
      show W p l e R s m args below meth c H locs cells slots Q (F0 m pc ls (.int xi :: .ref (ad (SB + 100)) :: r.map (cz ad)))
      rw [hs (SB + 100) (Nat.le_add_right _ _)]
      have e2 := i32_cl h0
      exact va_tl hxx hb hTX.1.2.2.1 hw.2.2.1 (fun q => q.elim (i32_nn h0) (fun z => by omega)) rfl hdec this
    · cases hsx
  · -- a text
    rename_i idx
    split at hsx
    · rename_i j hj
      cases hsx
      have hl3 : len = 2 := hln.resolve_right (by decide)
      subst hl3
      obtain ⟨q1, q2, q3⟩ := sx_ls _ (lk_mem hj)
      have hR := hTX.2.1.2 j q1
      rw [← q2, ← q3] at hR
      have := kk.same hw rfl rfl
      rw [List.map_cons] at this
      refine va_ldcS hxx hb hown hR hdec ?_
      rw [← hs (SB + j) (Nat.le_add_right _ _)]
      exact this
    · cases hsx
  · rename_i idx
    split at hsx
    · -- length
      rename_i ho
      split at hsx
      · rename_i k r
        split at hsx <;> cases hsx
        rename_i hc
        obtain ⟨k1, k2, hcat⟩ := hc
        obtain ⟨q, hq, rfl⟩ := sx_sk k1 k2
        have hl3 : len = 3 := hln.resolve_right (by decide)
        subst hl3
        obtain ⟨ho, rfl⟩ := ho
        rw [ho] at S
        have e0 : SB + q - SB = q := by omega
        have := kk.same hw rfl rfl
        rw [e0, List.map_cons] at this
        rw [List.map_cons]
        show W p l e R s m args below meth c H locs cells slots Q (F0 m pc ls (.ref (ad (SB + q)) :: r.map (cz ad)))
        rw [hs (SB + q) (Nat.le_add_right _ _)]
        refine jV (As := []) (Nat.lt_succ_of_lt hq) S hTH (jc_length (Nat.lt_succ_of_lt hq)) jw_length jl_RX4_65 ⟨by decide, by decide, show _ = some 0 from by decide⟩ rfl (by decide) (by omega) (by omega) hsz (sx_cat hcat) hdec (by omega) (by omega) rfl ?_
        rw [(jb_len q (Nat.lt_succ_of_lt hq)).2]
        exact this
      · cases hsx
    · split at hsx
      · -- charAt
        rename_i ho
        split at hsx
        · rename_i xi k r
          split at hsx <;> cases hsx
          rename_i hc
          obtain ⟨k1, k2, hcat, h0, h1⟩ := hc
          obtain ⟨q, hq, rfl⟩ := sx_sk k1 k2
          have hl3 : len = 3 := hln.resolve_right (by decide)
          subst hl3
          obtain ⟨ho, rfl⟩ := ho
          rw [ho] at S
          have e0 : SB + q - SB = q := by omega
          obtain ⟨z, hz, rfl⟩ := nI_of (i32_nn h0)
          rw [e0, nI_toInt hz] at h1
          have := kk.same hw rfl rfl
          rw [e0, List.map_cons, nI_clamp hz] at this
          rw [List.map_cons, List.map_cons]
          show W p l e R s m args below meth c H locs cells slots Q (F0 m pc ls (.int (nI z) :: .ref (ad (SB + q)) :: r.map (cz ad)))
          rw [hs (SB + q) (Nat.le_add_right _ _)]
          refine jV (As := [.int (nI z)]) (Nat.lt_succ_of_lt hq) S hTH (jc_charAt (Nat.lt_succ_of_lt hq) (by rw [(jb_len q (Nat.lt_succ_of_lt hq)).2]; omega)) jw_charAt jl_RX4_71 ⟨by decide, by decide, show _ = some 1 from by decide⟩ rfl (by decide) (by omega) (by omega) hsz (sx_cat hcat) hdec (by omega) (by omega) rfl ?_
          exact this
        · cases hsx
      · split at hsx
        · -- indexOf
          rename_i ho
          split at hsx
          · rename_i xi k r
            split at hsx <;> cases hsx
            rename_i hc
            obtain ⟨rfl, hcat, h0, h1⟩ := hc
            have hl3 : len = 3 := hln.resolve_right (by decide)
            subst hl3
            obtain ⟨ho, rfl⟩ := ho
            rw [ho] at S
            have := kk.same hw rfl rfl
            rw [List.map_cons] at this
            rw [List.map_cons, List.map_cons]
            show W p l e R s m args below meth c H locs cells slots Q (F0 m pc ls (.int xi :: .ref (ad (SB + 4)) :: r.map (cz ad)))
            rw [hs (SB + 4) (Nat.le_add_right _ _)]
            refine jV (As := [.int xi]) (i := 4) (by decide) S hTH (jc_ix1 (by decide)) jw_indexOf1 jl_RX7_133 ⟨by decide, by decide, show _ = some 1 from by decide⟩ rfl (by decide) (by omega) (by omega) hsz (sx_cat hcat) hdec (by omega) (by omega) rfl ?_
            rw [jb_sg h0 h1]
            exact this
          · cases hsx
        · cases hsx
  · -- the exception that the reference keeps
    rename_i idx
    split at hsx <;> cases hsx
    rename_i hc
    obtain ⟨rfl, rfl, hn0, hcat⟩ := hc
    have hx7 : x = (yX13_init, cX13_init, 1, none, 13, 1, 2) := (Option.some.inj (w217.symm.trans hx)).symm
    subst hx7
    have hd0 : Instr.new idx = .new 30 ∧ len = 3 := by
      have := dX13_init_55.symm.trans hdec
      cases this
      exact ⟨rfl, rfl⟩
    have hOk := hw.2.2.2.2
    have e1 : hn (nO h 0 6) - hn h = 1 := Nat.add_sub_cancel_left (hn h) 1
    have e2 : hu (nO h 0 6) - hu h = 6 := Nat.add_sub_cancel_left (hu h) 6
    rw [e1] at hrc
    rw [e2] at hrs
    have hat := own_at hts (fun w hw9 => bw_at hw9 (Vm.Alike.refl _) (hTX.2.1.1 w hw9)) hTX.2.2.1.2.word hTX.2.2.2.1.2.word (vx_isRefq hTX.2.2.1.1) (vx_isRefq hTX.2.2.2.1.1)
    refine ise_W (cc := cX13_init) (pc := 55) (A := A) hxx hb hl0 hown hat (hts _ own_ck.1) (hts _ own_ck.2) (hTX.2.1.2 5 (by decide)) hTX.2.2.1.2 hw.2.2.1 hAA (hsz.trans hml.symm) dX13_init_55 dX13_init_58 dX13_init_59 dX13_init_61 (by omega) ?_ hrc hrs (fun H' ce locs' s1 s2 s3 s4 s5 s6 => ?_)
    · have := sx_cat (ad := ad) hcat
      omega
    · have k0 := kk (va_up ad (hn h) H.size) (va_up cy (hn h) 0) H' locs' (wd_new0 hw hK0 hAA hn0 s2 s3 s4 s5 s6) (fun k hk => up1_ne (Nat.ne_of_lt hk)) (fun k hk => up1_ne (by have := hOk.2.2.2; omega))
      rw [e1, e2] at k0
      have hmap : (.ref (hn h) :: st).map (cz (va_up ad (hn h) H.size)) = .ref H.size :: st.map (cz ad) := by
        have h1 : cz (va_up ad (hn h) H.size) (.ref (hn h)) = .ref H.size := by
          show Value.ref _ = _
          rw [up1_eq]
        have h2 : st.map (cz (va_up ad (hn h) H.size)) = st.map (cz ad) := List.map_congr_left fun w hw => cz_up (hst w hw) hn0
        rw [List.map_cons, h1, h2]
      rw [hmap] at k0
      exact k0
  · cases hsx
