theorem cell_pAs {ad : Nat → Nat} {cy : Nat → ClassId} {h : Hp} {k : Nat} {f : Nat → Int32} (h1 : 13 ≤ hK h k) (h2 : hK h k ≠ 15) : cellA ad cy (pA h k f) k = .inl (cy k, hN h k, .inl f) := by
  have e : hA (pA h k f) k = f := up1_eq
  unfold cellA; rw [e, if_neg (show ¬ hK (pA h k f) k = 15 from h2), if_pos (show 13 ≤ hK (pA h k f) k from h1)]; rfl
theorem cell_pBs {ad : Nat → Nat} {cy : Nat → ClassId} {h : Hp} {k : Nat} {f : Nat → Int64} (h2 : hK h k = 15) : cellA ad cy (pB h k f) k = .inl (cy k, hN h k, .inr (.inl f)) := by
  have e : hB (pB h k f) k = f := up1_eq
  unfold cellA; rw [e, if_pos (show hK (pB h k f) k = 15 from h2)]; rfl
section SNX
variable {p : Program} {l : Launch} {e : Env} {R : Room} {s : State} {m : MethodId} {args : Array Value} {below : List Frame} {meth : Method} {c : Code} {H : Heap} {locs : List Loc} {cells slots : Nat} {Q : State → Prop}
variable {pc : Nat} {ls : Array Slot} {D : va_G} {A : Nat → Prop} {H0 : Heap} {x : MI} {ad : Nat → Nat} {cy : Nat → ClassId} {h : Hp}
/-- what is left to show behind an instruction that has made h' of h -/
def Nx (p : Program) (l : Launch) (e : Env) (R : Room) (s : State) (m : MethodId) (args : Array Value) (below : List Frame) (meth : Method) (c : Code) (D : va_G) (A : Nat → Prop) (H0 : Heap) (cells slots : Nat) (Q : State → Prop) (ls : Array Slot) (ad : Nat → Nat) (h h' : Hp) (pc' : Nat) (st' : List Value) : Prop :=
  ∀ ad' cy' H' locs', Wd D s A H0 ad' cy' h' H' locs' → (∀ k, k < hn h → ad' k = ad k) → (∀ k, SB ≤ k → ad' k = ad k) → W p l e R s m args below meth c H' locs' (cells + (hn h' - hn h)) (slots + (hu h' - hu h)) Q (F0 m pc' ls (st'.map (cz ad')))
theorem Nx.same {h' : Hp} {pc' : Nat} {st' : List Value} (kk : Nx p l e R s m args below meth c D A H0 cells slots Q ls ad h h' pc' st') (hw : Wd D s A H0 ad cy h' H locs) (e1 : hn h' = hn h) (e2 : hu h' = hu h) : W p l e R s m args below meth c H locs cells slots Q (F0 m pc' ls (st'.map (cz ad))) := by
  have k0 := kk ad cy H locs hw (fun _ _ => rfl) (fun _ _ => rfl)
  rw [e1, e2, Nat.sub_self, Nat.sub_self] at k0
  exact k0
/-- one cell has changed, kinds and references have not -/
theorem Wd.upd {h' : Hp} {k : Nat} {en : va_E} {H1 : Heap} {locs1 : List Loc} (hw : Wd D s A H0 ad cy h H locs) (hs : sameSh h h') (he : cellA ad cy h' k = en) (ho : ∀ j, j ≠ k → cellA ad cy h' j = cellA ad cy h j)
    (hP : va_P D vwCl ((Xw ad cy h).set k (ad k, en)) H1) (hD : va_D A ((Xw ad cy h).set k (ad k, en))) (hS : va_S A H0 H1 locs1) : Wd D s A H0 ad cy h' H1 locs1 := by
  rw [Xw_set hs.2.2 he ho] at hP hD
  refine ⟨hP, hD, hS, ?_, hOK_same hs hw.2.2.2.2⟩
  rw [hs.1, hs.2.2]
  exact hw.2.2.2.1
theorem aty_of {k kd : Nat} (hw : Wd D s A H0 ad cy h H locs) (hk : hK h k = kd) (h1 : 13 ≤ kd) (h2 : kd ≤ 16) : k < hn h ∧ ArrOfT s (cy k) (aty kd) ∧ va_RA s (cy k) (aty kd) := by
  subst hk
  have hlt := hOK_lt hw.2.2.2.2 h2
  exact ⟨hlt, hw.2.2.2.1 k hlt h1⟩
set_option maxHeartbeats 4000000 in
theorem sH_get (C : Cx p s m args meth c D A H0 x) (hw : Wd D s A H0 ad cy h H locs) {idx ci j k : Nat} {r : List Value} (hf : fl x.2.2.2.2.1 idx = some (ci, j)) (hk : hK h k = ci) (hd : decode x.2.1 pc = .ok (.getfield idx, 3))
    (kk : W p l e R s m args below meth c H locs cells slots Q (F0 m (pc + 3) ls ((fvA h ci k j :: r).map (cz ad)))) : W p l e R s m args below meth c H locs cells slots Q (F0 m pc ls ((.ref k :: r).map (cz ad))) := by
  obtain ⟨hx, hb, -, hown, hts, hnw, -, -, -, hK0, -⟩ := C
  obtain ⟨Cn, T, N, hc, hj, h13, hlink⟩ := fTab_ok _ (lk_mem hf)
  have hc : vwCl[ci]? = some (Cn, T, N) := hc
  have hj : j < N := hj
  have h13 : ci < 13 := h13
  subst hk
  have hlt : k < hn h := hOK_lt hw.2.2.2.2 (by omega)
  have he : (Xw ad cy h)[k]? = some (ad k, .inr (hK h k, (List.range (nfl (hK h k))).map (fun i => cz ad (fvA h (hK h k) k i)))) := by rw [Xw_at hlt, cellA_obj h13]
  have hv : ((List.range (nfl (hK h k))).map (fun i => cz ad (fvA h (hK h k) k i)))[j]? = some (cz ad (fvA h (hK h k) k j)) := by
    rw [nfl_lt hc, List.getElem?_map, List.getElem?_range hj]; rfl
  rcases hlink with hlink | ⟨host, hlink⟩
  · exact va_get hx hb hts (ws_in hc) hown hK0 hw.1 k he hc j hj (hts _ (gw_in hlink rfl)) (fun _ q => q) hv hd kk
  · exact va_getN hx hb hts (ws_in hc) hown hK0 hw.1 k he hc j hj (va_Nw.use rfl (hnw _ (nw_in hlink rfl))) (fun _ q => q) hv hd kk
set_option maxHeartbeats 4000000 in
theorem sH_W (C : Cx p s m args meth c D A H0 x) (hw : Wd D s A H0 ad cy h H locs) {i : Instr} {st st' : List Value} {ln : Nat} {h' : Hp} (hh : sH x.2.2.2.2.1 i st h = some (ln, st', h')) (hd : decode x.2.1 pc = .ok (i, ln)) (hst : okS (hn h) st)
    (hrc : cells + (hn h' - hn h) ≤ R.cells) (hrs : slots + (hu h' - hu h) ≤ R.slots)
    (kk : Nx p l e R s m args below meth c D A H0 cells slots Q ls ad h h' (pc + ln) st') : W p l e R s m args below meth c H locs cells slots Q (F0 m pc ls (st.map (cz ad))) := by
  have C0 := C
  obtain ⟨hx, hb, -, hown, hts, hnw, -, -, -, hK0, hAA⟩ := C
  obtain ⟨hP, hD, hS, hArr, hOk⟩ := id hw
  unfold sH at hh
  split at hh
  case h_1 =>
    split at hh
    · rename_i ci j hf
      split at hh
      · split at hh <;> cases hh
        rename_i hk
        exact sH_get C0 hw hf hk hd (kk.same hw rfl rfl)
      · cases hh
    · cases hh
  case h_2 =>
    split at hh
    · rename_i k r
      split at hh <;> cases hh
      rename_i hk
      have hlt := hOK_lt hOk hk.2
      have ha := hArr k hlt hk.1
      by_cases h15 : hK h k = 15
      · exact va_alen (x := (hN h k, .inr (.inl (hB h k)))) hx hb (K1 hK0 ha) hP k 0 (by rw [Xw_at hlt, cellA_J h15]) rfl rfl hd (kk.same hw rfl rfl)
      · exact va_alen (x := (hN h k, .inl (hA h k))) hx hb (K1 hK0 ha) hP k 0 (by rw [Xw_at hlt, cellA_I hk.1 h15]) rfl rfl hd (kk.same hw rfl rfl)
    · cases hh
  case h_3 =>
    split at hh
    · rename_i v k r
      split at hh <;> cases hh
      rename_i hk
      obtain ⟨hlt, ha⟩ := aty_of hw hk.1 (by decide) (by decide)
      exact va_iald hx hb (K1 hK0 ha) hP k 0 (by rw [Xw_at hlt, cellA_I (by omega) (by omega)]) rfl (vp_in_of_int hk.2.1 hk.2.2) hd (kk.same hw rfl rfl)
    · cases hh
  case h_4 =>
    split at hh
    · rename_i v k r
      split at hh <;> cases hh
      rename_i hk
      rcases hk.1 with q | q
      · obtain ⟨hlt, ha⟩ := aty_of hw q (by decide) (by decide)
        exact va_bald hx hb (K1 hK0 ha) hP k 0 (by rw [Xw_at hlt, cellA_I (by omega) (by omega)]) rfl (vp_in_of_int hk.2.1 hk.2.2) hd (kk.same hw rfl rfl)
      · obtain ⟨hlt, ha⟩ := aty_of hw q (by decide) (by decide)
        exact va_zald hx hb (K1 hK0 ha) hP k 0 (by rw [Xw_at hlt, cellA_I (by omega) (by omega)]) rfl (vp_in_of_int hk.2.1 hk.2.2) hd (kk.same hw rfl rfl)
    · cases hh
  case h_5 =>
    split at hh
    · rename_i v k r
      split at hh <;> cases hh
      rename_i hk
      obtain ⟨hlt, ha⟩ := aty_of hw hk.1 (by decide) (by decide)
      exact va_lald hx hb (K1 hK0 ha) hP k 0 (by rw [Xw_at hlt, cellA_J hk.1]) rfl (vp_in_of_int hk.2.1 hk.2.2) hd (kk.same hw rfl rfl)
    · cases hh
  case h_6 =>
    split at hh
    · rename_i v w k r
      split at hh <;> cases hh
      rename_i hk
      obtain ⟨hlt, ha⟩ := aty_of hw hk.1 (by decide) (by decide)
      refine va_iast hx hb (K1 hK0 ha) hP hD hS k 0 (by rw [Xw_at hlt, cellA_I (by omega) (by omega)]) rfl (vp_in_of_int hk.2.1 hk.2.2) hd (fun H1 locs1 q1 q2 q3 => ?_)
      refine kk.same (hw.upd ⟨rfl, rfl, rfl⟩ ?_ (fun j hj => cell_pA hj) q1 q2 q3) rfl rfl
      exact cell_pAs (by omega) (by omega)
    · cases hh
  case h_7 =>
    split at hh
    · rename_i v w k r
      split at hh <;> cases hh
      rename_i hk
      rcases hk.1 with q | q
      · obtain ⟨hlt, ha⟩ := aty_of hw q (by decide) (by decide)
        refine va_bast hx hb (K1 hK0 ha) hP hD hS k 0 (by rw [Xw_at hlt, cellA_I (by omega) (by omega)]) rfl (vp_in_of_int hk.2.1 hk.2.2) hd (fun H1 locs1 q1 q2 q3 => ?_)
        refine kk.same (hw.upd ⟨rfl, rfl, rfl⟩ ?_ (fun j hj => cell_pA hj) q1 q2 q3) rfl rfl
        rw [if_pos q, vp_nar_byte]
        exact cell_pAs (by omega) (by omega)
      · obtain ⟨hlt, ha⟩ := aty_of hw q (by decide) (by decide)
        refine va_zast hx hb (K1 hK0 ha) hP hD hS k 0 (by rw [Xw_at hlt, cellA_I (by omega) (by omega)]) rfl (vp_in_of_int hk.2.1 hk.2.2) hd (fun H1 locs1 q1 q2 q3 => ?_)
        refine kk.same (hw.upd ⟨rfl, rfl, rfl⟩ ?_ (fun j hj => cell_pA hj) q1 q2 q3) rfl rfl
        rw [if_neg (by omega)]
        exact cell_pAs (by omega) (by omega)
    · cases hh
  case h_8 =>
    split at hh
    · rename_i v w k r
      split at hh <;> cases hh
      rename_i hk
      obtain ⟨hlt, ha⟩ := aty_of hw hk.1 (by decide) (by decide)
      refine va_last hx hb (K1 hK0 ha) hP hD hS k 0 (by rw [Xw_at hlt, cellA_J hk.1]) rfl (vp_in_of_int hk.2.1 hk.2.2) hd (fun H1 locs1 q1 q2 q3 => ?_)
      refine kk.same (hw.upd ⟨rfl, rfl, rfl⟩ ?_ (fun j hj => cell_pB hj) q1 q2 q3) rfl rfl
      exact cell_pBs hk.1
    · cases hh
  case h_9 =>
    rename_i ty
    split at hh
    · rename_i kd hkd
      split at hh
      · rename_i v r
        split at hh <;> cases hh
        rename_i hc
        have e1 : hn (nA h kd v.toNatClampNeg) = hn h + 1 := rfl
        have e2 : hu (nA h kd v.toNatClampNeg) = hu h + v.toNatClampNeg := rfl
        have e3 : hn h + 1 - hn h = 1 := by omega
        have e4 : hu h + v.toNatClampNeg - hu h = v.toNatClampNeg := by omega
        rw [e1, e3] at hrc
        rw [e2, e4] at hrs
        have hv0 : ¬ v < 0 := fun q => by have := Int32.lt_iff_toInt_lt.mp q; simp at this; omega
        have hvn : v.toNatClampNeg ≤ 60000000 := by
          have : ((v.toInt.toNat : Nat) : Int) = v.toInt := Int.toNat_of_nonneg hc.1
          have h9 : v.toNatClampNeg = v.toInt.toNat := rfl
          omega
        have key : ∀ (fty : FieldType) (a0 : vp_A), newarray.typeOf ty = fty → Cond.arrayClass fty ∈ lw_tbl → aty kd = fty → 13 ≤ kd → kd ≤ 16 → v.toNatClampNeg * componentBytes fty ≤ 536870912 → (∀ cA : ClassId, vp_cell cA a0 = arrV cA v.toNatClampNeg (fun _ => defaultValue fty)) → (∀ (q : Nat) (cA : ClassId), cellA (va_up ad (hn h) q) (va_up cy (hn h) cA) (nA h kd v.toNatClampNeg) (hn h) = .inl (cA, a0)) →
            W p l e R s m args below meth c H locs cells slots Q (F0 m pc ls ((.int v :: r).map (cz ad))) := by
          intro fty a0 hty hin haty h13 h16 hbytes hcell hself
          refine va_newa hx hb (by rw [hty]; exact hts _ (gw_in hin rfl)) hty hK0 hP hD hS hAA hcell hv0 rfl hbytes hrc hrs hd (fun q cA H1 k1 q1 q2 q3 => ?_)
          have hold : ∀ j, j < hn h → cellA (va_up ad (hn h) q) (va_up cy (hn h) cA) (nA h kd v.toNatClampNeg) j = cellA ad cy h j := by
            intro j hj
            have hne : j ≠ hn h := Nat.ne_of_lt hj
            unfold cellA
            rw [show hK (nA h kd v.toNatClampNeg) j = hK h j from up1_ne hne, show hN (nA h kd v.toNatClampNeg) j = hN h j from up1_ne hne, show hA (nA h kd v.toNatClampNeg) j = hA h j from up1_ne hne, show hB (nA h kd v.toNatClampNeg) j = hB h j from up1_ne hne, up1_ne (f := cy) hne]
            have hz : ∀ i, cz (va_up ad (hn h) q) (fvA (nA h kd v.toNatClampNeg) (hK h j) j i) = cz ad (fvA h (hK h j) j i) := fun i => cz_up (okv_fvA hOk _ _ _) hc.2.2
            simp only [hz]
          have hXw := Xw_push (ad := ad) (cy := cy) (h := h) (h' := nA h kd v.toNatClampNeg) (q := q) (cA := cA) e1 hold (hself q cA)
          rw [← hXw] at q1 q2
          have k0 := kk (va_up ad (hn h) q) (va_up cy (hn h) cA) H1 locs ⟨q1, q2, q3, ?_, ?_⟩ (fun k hk => up1_ne (Nat.ne_of_lt hk)) (fun k hk => up1_ne (by have := hOk.2.2.2; omega))
          · rw [e1, e2, e3, e4] at k0
            have hmap : (.ref (hn h) :: r).map (cz (va_up ad (hn h) q)) = .ref q :: r.map (cz ad) := by
              rw [List.map_cons]
              congr 1
              · show Value.ref _ = _
                rw [up1_eq]
              · exact List.map_congr_left fun w hw => cz_up (hst w (List.mem_cons_of_mem _ hw)) hc.2.2
            rw [hmap] at k0
            exact k0
          · intro k hk h13'
            rw [e1] at hk
            by_cases hkn : k = hn h
            · subst hkn
              rw [show hK (nA h kd v.toNatClampNeg) (hn h) = kd from up1_eq, up1_eq, haty]
              exact k1.2 0 _ rfl
            · rw [show hK (nA h kd v.toNatClampNeg) k = hK h k from up1_ne hkn] at h13' ⊢
              rw [up1_ne (f := cy) hkn]
              exact hArr k (by omega) h13'
          · refine ⟨fun k hk => ?_, fun k hk => ?_, fun k i r hr => ?_, ?_⟩
            · rw [e1] at hk
              rw [show hK (nA h kd v.toNatClampNeg) k = hK h k from up1_ne (by omega)]
              exact hOk.1 k (by omega)
            · rw [e1] at hk
              by_cases hkn : k = hn h
              · subst hkn; rw [show hK (nA h kd v.toNatClampNeg) (hn h) = kd from up1_eq]; exact h16
              · rw [show hK (nA h kd v.toNatClampNeg) k = hK h k from up1_ne hkn]; exact hOk.2.1 k (by omega)
            · rw [e1]
              have := hOk.2.2.1 k i r hr
              omega
            · rw [e1]; exact hc.2.2
        unfold akd at hkd
        split at hkd <;> cases hkd
        · exact key .byte (v.toNatClampNeg, .inl (fun _ => 0)) rfl w_arr.1 rfl (by decide) (by decide) (by simp [componentBytes]; omega) (fun _ => rfl) (fun q cA => by
            rw [cellA_I (by rw [show hK (nA h 13 v.toNatClampNeg) (hn h) = 13 from up1_eq]; decide) (by rw [show hK (nA h 13 v.toNatClampNeg) (hn h) = 13 from up1_eq]; decide), show hN (nA h 13 v.toNatClampNeg) (hn h) = _ from up1_eq, show hA (nA h 13 v.toNatClampNeg) (hn h) = _ from up1_eq, up1_eq])
        · exact key .int (v.toNatClampNeg, .inl (fun _ => 0)) rfl w_arr.2.1 rfl (by decide) (by decide) (by simp [componentBytes]; omega) (fun _ => rfl) (fun q cA => by
            rw [cellA_I (by rw [show hK (nA h 14 v.toNatClampNeg) (hn h) = 14 from up1_eq]; decide) (by rw [show hK (nA h 14 v.toNatClampNeg) (hn h) = 14 from up1_eq]; decide), show hN (nA h 14 v.toNatClampNeg) (hn h) = _ from up1_eq, show hA (nA h 14 v.toNatClampNeg) (hn h) = _ from up1_eq, up1_eq])
        · exact key .long (v.toNatClampNeg, .inr (.inl (fun _ => 0))) rfl w_arr.2.2.1 rfl (by decide) (by decide) (by simp [componentBytes]; omega) (fun _ => rfl) (fun q cA => by
            rw [cellA_J (show hK (nA h 15 v.toNatClampNeg) (hn h) = 15 from up1_eq), show hN (nA h 15 v.toNatClampNeg) (hn h) = _ from up1_eq, show hB (nA h 15 v.toNatClampNeg) (hn h) = _ from up1_eq, up1_eq])
        · exact key .boolean (v.toNatClampNeg, .inl (fun _ => 0)) rfl w_arr.2.2.2 rfl (by decide) (by decide) (by simp [componentBytes]; omega) (fun _ => rfl) (fun q cA => by
            rw [cellA_I (by rw [show hK (nA h 16 v.toNatClampNeg) (hn h) = 16 from up1_eq]; decide) (by rw [show hK (nA h 16 v.toNatClampNeg) (hn h) = 16 from up1_eq]; decide), show hN (nA h 16 v.toNatClampNeg) (hn h) = _ from up1_eq, show hA (nA h 16 v.toNatClampNeg) (hn h) = _ from up1_eq, up1_eq])
      · cases hh
    · cases hh
  case h_10 =>
    split at hh
    · rename_i ci hci
      split at hh <;> cases hh
      rename_i hc
      obtain ⟨Cn, T, N, hcl, h13, hlink, hinst, hini⟩ := nTab_ok _ (lk_mem hci)
      have hcl : vwCl[ci]? = some (Cn, T, N) := hcl
      have h13 : ci < 13 := h13
      have hnf : nfl ci = N := nfl_lt hcl
      rw [hnf] at kk hrc hrs
      have e1 : hn (nO h ci N) = hn h + 1 := rfl
      have e2 : hu (nO h ci N) = hu h + N := rfl
      have e3 : hn h + 1 - hn h = 1 := by omega
      have e4 : hu h + N - hu h = N := by omega
      rw [e1, e3] at hrc
      rw [e2, e4] at hrs
      have hKn : hK (nO h ci N) (hn h) = ci := up1_eq
      have hdef : ∀ (q : Nat) (cA : ClassId) (j : Nat), j < N → defaultValue (tyOf ci j) = cz (va_up ad (hn h) q) (fvA (nO h ci N) ci (hn h) j) := by
        intro q cA j hj
        have ht := okT h13 (show j < nfl ci by rw [hnf]; exact hj)
        unfold fvA
        rw [show hI (nO h ci N) (hn h) j = 0 from congrFun up1_eq j, show hL (nO h ci N) (hn h) j = 0 from congrFun up1_eq j, show hR (nO h ci N) (hn h) j = none from congrFun up1_eq j]
        cases hty : tyOf ci j <;> rw [hty] at ht <;> first | rfl | (exact absurd ht (by decide))
      refine va_new (fs := (List.range N).map (fun i => defaultValue (tyOf ci i))) hx hb hts (ws_in hcl) (tyOf ci) (cls_ok hcl).2.1 hown (hts _ (gw_in hlink rfl)) (hts _ (gw_in hinst rfl)) (hts _ (gw_in hini rfl)) hK0 hP hD hS hAA hcl (fun j hj => by
        unfold vp_V; rw [List.getD_eq_getElem?_getD, List.getElem?_map, List.getElem?_range hj]; rfl) hrc hrs hd (fun q H1 q1 q2 q3 => ?_)
      have hold : ∀ j, j < hn h → cellA (va_up ad (hn h) q) (va_up cy (hn h) 0) (nO h ci N) j = cellA ad cy h j := by
        intro j hj
        have hne : j ≠ hn h := Nat.ne_of_lt hj
        unfold cellA
        rw [show hK (nO h ci N) j = hK h j from up1_ne hne, up1_ne (f := cy) hne]
        have hz : ∀ i, cz (va_up ad (hn h) q) (fvA (nO h ci N) (hK h j) j i) = cz ad (fvA h (hK h j) j i) := fun i => by
          rw [fvA_eq (h := h) (h' := nO h ci N) (congrFun (up1_ne hne) i) (congrFun (up1_ne hne) i) (congrFun (up1_ne hne) i)]
          exact cz_up (okv_fvA hOk _ _ _) hc
        simp only [hz]
        rfl
      have hself : cellA (va_up ad (hn h) q) (va_up cy (hn h) 0) (nO h ci N) (hn h) = .inr (ci, (List.range N).map (fun i => defaultValue (tyOf ci i))) := by
        rw [cellA_obj (by rw [hKn]; exact h13), hKn, hnf]
        congr 2
        exact List.map_congr_left fun j hj => (hdef q 0 j (List.mem_range.mp hj)).symm
      have hXw := Xw_push (ad := ad) (cy := cy) (h := h) (h' := nO h ci N) (q := q) (cA := 0) e1 hold hself
      rw [← hXw] at q1 q2
      have k0 := kk (va_up ad (hn h) q) (va_up cy (hn h) 0) H1 locs ⟨q1, q2, q3, ?_, ?_⟩ (fun k hk => up1_ne (Nat.ne_of_lt hk)) (fun k hk => up1_ne (by have := hOk.2.2.2; omega))
      · rw [e1, e2, e3, e4] at k0
        have hmap : (.ref (hn h) :: st).map (cz (va_up ad (hn h) q)) = .ref q :: st.map (cz ad) := by
          rw [List.map_cons]
          congr 1
          · show Value.ref _ = _
            rw [up1_eq]
          · exact List.map_congr_left fun w hw => cz_up (hst w hw) hc
        rw [hmap] at k0
        exact k0
      · intro k hk h13'
        rw [e1] at hk
        by_cases hkn : k = hn h
        · subst hkn; rw [hKn] at h13'; omega
        · rw [show hK (nO h ci N) k = hK h k from up1_ne hkn] at h13' ⊢
          rw [up1_ne (f := cy) hkn]
          exact hArr k (by omega) h13'
      · refine ⟨fun k hk => ?_, fun k hk => ?_, fun k i r hr => ?_, ?_⟩
        · rw [e1] at hk
          rw [show hK (nO h ci N) k = hK h k from up1_ne (by omega)]
          exact hOk.1 k (by omega)
        · rw [e1] at hk
          by_cases hkn : k = hn h
          · subst hkn; rw [hKn]; omega
          · rw [show hK (nO h ci N) k = hK h k from up1_ne hkn]; exact hOk.2.1 k (by omega)
        · rw [e1]
          by_cases hkn : k = hn h
          · subst hkn
            rw [show hR (nO h ci N) (hn h) i = none from congrFun up1_eq i] at hr
            cases hr
          · rw [show hR (nO h ci N) k i = hR h k i from congrFun (up1_ne hkn) i] at hr
            have := hOk.2.2.1 k i r hr
            omega
        · rw [e1]; exact hc
    · cases hh
  case h_11 => cases hh
end SNX
