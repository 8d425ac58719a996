theorem nw_ne : NW.all (fun w => match w with | .fieldLinkNest a _ b _ _ _ => decide (a ≠ b) | _ => true) = true := by decide +kernel
section SNP
variable {p : Program} {l : Launch} {e : Env} {R : Room} {s : State} {m : MethodId} {args : Array Value} {below : List Frame} {meth : Method} {c : Code} {H : Heap} {locs : List Loc} {cells slots : Nat} {Q : State → Prop}
variable {pc : Nat} {ls : Array Slot} {D : va_G} {A : Nat → Prop} {H0 : Heap} {x : MI} {ad : Nat → Nat} {cy : Nat → ClassId} {h : Hp}
set_option maxHeartbeats 4000000 in
/-- a field of an object is put: the machine's side, for any value that fits -/
theorem put_W (C : Cx p s m args meth c D A H0 x) (hw : Wd D s A H0 ad cy h H locs) {idx ci i k : Nat} {r : List Value} {v : Value} (hf : fl x.2.2.2.2.1 idx = some (ci, i)) (hfin : ¬ (isFin ci i = true ∧ ¬ (x.2.2.2.2.2.2 = 2 ∧ (vwCl[ci]?).map (fun q => (q.2.1 i).1) = some (oNm x.2.2.2.2.1)))) (hk : hK h k = ci) (hn1 : narrow (tyOf ci i) (cz ad v) = cz ad v) (hft : fits (tyOf ci i) (cz ad v) = true)
    (hd : decode x.2.1 pc = .ok (.putfield idx, 3))
    (kk : ∀ (H1 : Heap) (locs1 : List Loc), va_P D vwCl ((Xw ad cy h).set k (ad k, .inr (ci, ((List.range (nfl ci)).map (fun i => cz ad (fvA h ci k i))).set i (cz ad v)))) H1 → va_D A ((Xw ad cy h).set k (ad k, .inr (ci, ((List.range (nfl ci)).map (fun i => cz ad (fvA h ci k i))).set i (cz ad v)))) → va_S A H0 H1 locs1 → W p l e R s m args below meth c H1 locs1 cells slots Q (F0 m (pc + 3) ls (r.map (cz ad)))) : W p l e R s m args below meth c H locs cells slots Q (F0 m pc ls ((v :: .ref k :: r).map (cz ad))) := by
  obtain ⟨hx, hb, -, hown, hts, hnw, -, -, hin, hK0, -⟩ := C
  obtain ⟨Cn, T, N, hc, hj, h13, hlink⟩ := fTab_ok _ (lk_mem hf)
  have hc : vwCl[ci]? = some (Cn, T, N) := hc
  have hj : i < N := hj
  have h13 : ci < 13 := h13
  have hlt : k < hn h := hOK_lt hw.2.2.2.2 (by omega)
  have he : (Xw ad cy h)[k]? = some (ad k, .inr (ci, (List.range (nfl ci)).map (fun i => cz ad (fvA h ci k i)))) := by rw [Xw_at hlt, cellA_obj (by omega), hk]
  have hlen : i < ((List.range (nfl ci)).map (fun i => cz ad (fvA h ci k i))).length := by rw [List.length_map, List.length_range, nfl_lt hc]; exact hj
  have hisf : isFin ci i = (T i).2.2.2 := by unfold isFin; rw [hc]
  rw [hisf, hc] at hfin
  by_cases hfi : (T i).2.2.2 = true
  · have h2 : x.2.2.2.2.2.2 = 2 ∧ (T i).1 = oNm x.2.2.2.2.1 := by
      by_cases q : x.2.2.2.2.2.2 = 2 ∧ Option.map (fun q => (q.2.1 i).1) (some (Cn, T, N)) = some (oNm x.2.2.2.2.1)
      · exact ⟨q.1, Option.some.inj q.2⟩
      · exact absurd ⟨hfi, q⟩ hfin
    rcases hlink with hlink | ⟨host, hlink⟩
    · exact va_putF hx hb hts (ws_in hc) (tyOf ci) (cls_ok hc).2.1 (cls_ok hc).2.2 hown hK0 hw.1 hw.2.1 hw.2.2.1 k he hc i hj (hts _ (gw_in hlink rfl)) (fun _ q => q) hfi (hin h2.1) h2.2 ((cls_ok hc).2.1 i hj) hn1 hft hlen hd kk
    · have := List.all_eq_true.mp nw_ne _ (nw_in hlink rfl)
      exact absurd h2.2.symm (by simpa using this)
  · have hfi : (T i).2.2.2 = false := by simpa using hfi
    rcases hlink with hlink | ⟨host, hlink⟩
    · exact va_put hx hb hts (ws_in hc) (tyOf ci) (cls_ok hc).2.1 (cls_ok hc).2.2 hown hK0 hw.1 hw.2.1 hw.2.2.1 k he hc i hj (hts _ (gw_in hlink rfl)) (fun _ q => q) hfi ((cls_ok hc).2.1 i hj) hn1 hft hlen hd kk
    · exact va_putN hx hb hts (ws_in hc) (tyOf ci) (cls_ok hc).2.1 (cls_ok hc).2.2 hown hK0 hw.1 hw.2.1 hw.2.2.1 k he hc i hj (va_Nw.use rfl (hnw _ (nw_in hlink rfl))) (fun _ q => q) hfi ((cls_ok hc).2.1 i hj) hn1 hft hlen hd kk
theorem swp_k {α : Type} {f : Nat → α} {k q : Nat} : swp f k q k = f q := if_pos rfl
theorem swp_q {α : Type} {f : Nat → α} {k q : Nat} (h : k ≠ q) : swp f k q q = f k := by unfold swp; rw [if_neg (fun e => h e.symm), if_pos rfl]
theorem swp_o {α : Type} {f : Nat → α} {k q j : Nat} (h1 : j ≠ k) (h2 : j ≠ q) : swp f k q j = f j := by unfold swp; rw [if_neg h1, if_neg h2]
theorem swp_inj {k q a b : Nat} (h : swp (fun z => z) k q a = swp (fun z => z) k q b) : a = b := by
  unfold swp at h
  by_cases a1 : a = k <;> by_cases a2 : a = q <;> by_cases b1 : b = k <;> by_cases b2 : b = q <;> simp only [a1, a2, b1, b2, if_true, if_false] at h <;> (try split at h) <;> omega
theorem cz_swp {ad : Nat → Nat} {k q : Nat} {v : Value} (h1 : v ≠ .ref k) : cz (swp ad k q) (rnm k q v) = cz ad v := by
  unfold rnm
  by_cases hq : v = .ref q
  · rw [if_pos hq, hq]
    exact congrArg Value.ref swp_k
  · rw [if_neg hq]
    cases v with
    | ref r => exact congrArg Value.ref (swp_o (fun e => h1 (by rw [e])) (fun e => hq (by rw [e])))
    | _ => rfl
theorem cz_swp0 {ad : Nat → Nat} {k q : Nat} {v : Value} (h1 : v ≠ .ref k) (h2 : v ≠ .ref q) : cz (swp ad k q) v = cz ad v := by
  have := cz_swp (ad := ad) (q := q) h1
  unfold rnm at this
  rwa [if_neg h2] at this
/-- what is left to show behind a putfield -/
def NxP (p : Program) (l : Launch) (e : Env) (R : Room) (s : State) (m : MethodId) (args : Array Value) (below : List Frame) (meth : Method) (c : Code) (D : va_G) (A : Nat → Prop) (H0 : Heap) (cells slots : Nat) (Q : State → Prop) (ls : Array Slot) (nL : Nat) (ad : Nat → Nat) (h h' : Hp) (pc' : Nat) (L' : ALS) (st' : List Value) : Prop :=
  ∀ ad' cy' H' locs', Wd D s A H0 ad' cy' h' H' locs' → lv_has ls nL (czL ad' L') → (∀ k, hv h' k = hv h k → k < hn h → ad' k = ad k) → (∀ k, hK h k < 13 → ad' k = ad k) → (∀ k, SB ≤ k → ad' k = ad k) → W p l e R s m args below meth c H' locs' cells slots Q (F0 m pc' ls (st'.map (cz ad')))
set_option maxHeartbeats 8000000 in
theorem sP_W (C : Cx p s m args meth c D A H0 x) (hw : Wd D s A H0 ad cy h H locs) {idx : Nat} {L L' : ALS} {st st' : List Value} {h' : Hp} (hh : sP x.2.2.2.2.1 x.2.2.2.2.2.2 idx L st h = some (L', st', h')) (hd : decode x.2.1 pc = .ok (.putfield idx, 3)) (hl : lv_has ls x.2.2.1 (czL ad L)) (hst : okS (hn h) st)
    (kk : NxP p l e R s m args below meth c D A H0 cells slots Q ls x.2.2.1 ad h h' (pc + 3) L' st') : W p l e R s m args below meth c H locs cells slots Q (F0 m pc ls (st.map (cz ad))) := by
  unfold sP at hh
  split at hh
  · rename_i ci i hf
    split at hh
    · cases hh
    rename_i hfin
    have h13 : ci < 13 := by
      obtain ⟨_, _, _, _, _, h13, _⟩ := fTab_ok _ (lk_mem hf)
      exact h13
    have hjN : i < nfl ci := by
      obtain ⟨_, _, _, hc, hj, _, _⟩ := fTab_ok _ (lk_mem hf)
      rw [nfl_lt hc]; exact hj
    have hty := okT h13 hjN
    split at hh
    · rename_i v k r
      split at hh <;> cases hh
      rename_i hc
      have hnf : narrow (tyOf ci i) (.int v) = .int v ∧ fits (tyOf ci i) (.int v) = true := by
        rcases hc.2 with q | ⟨q, q2⟩
        · cases ht : tyOf ci i <;> rw [ht] at q hty <;> first | exact ⟨rfl, rfl⟩ | (cases hty; done) | (cases q; done)
        · cases ht : tyOf ci i <;> rw [ht] at q hty <;> first | (cases q; done) | (cases hty; done) | (rcases q2 with e | e <;> subst e <;> exact ⟨by decide, by decide⟩)
      refine put_W C hw hf hfin hc.1 (v := .int v) hnf.1 hnf.2 hd (fun H1 locs1 q1 q2 q3 => ?_)
      refine kk ad cy H1 locs1 (hw.upd (h' := pI h k i v) (k := k) ⟨rfl, rfl, rfl⟩ ?_ (fun j hj => cell_pI hj) q1 q2 q3) hl (fun _ _ _ => rfl) (fun _ _ => rfl) (fun _ _ => rfl)
      rw [cellA_obj (show hK (pI h k i v) k < 13 by rw [show hK (pI h k i v) k = ci from hc.1]; exact h13)]
      rw [show hK (pI h k i v) k = ci from hc.1]
      congr 2
      refine map_set_at _ _ _ _ _ ?_ (fun j _ hj => ?_)
      · show cz ad (fvA (pI h k i v) ci k i) = .int v
        rw [fvA_int (by rcases hc.2 with q | q; exact Or.inl q; exact Or.inr q.1), show hI (pI h k i v) k i = v from up2_eq]; rfl
      · show cz ad (fvA (pI h k i v) ci k j) = _
        rw [fvA_eq (h := h) (h' := pI h k i v) (up2_ne (fun q => hj q.2)) rfl rfl]
    · rename_i v k r
      split at hh <;> cases hh
      rename_i hc
      have hnf : narrow (tyOf ci i) (.long v) = .long v ∧ fits (tyOf ci i) (.long v) = true := by
        have q := hc.2
        cases ht : tyOf ci i <;> rw [ht] at q hty <;> first | exact ⟨rfl, rfl⟩ | (cases hty; done) | (cases q; done)
      refine put_W C hw hf hfin hc.1 (v := .long v) hnf.1 hnf.2 hd (fun H1 locs1 q1 q2 q3 => ?_)
      refine kk ad cy H1 locs1 (hw.upd (h' := pL h k i v) (k := k) ⟨rfl, rfl, rfl⟩ ?_ (fun j hj => cell_pL hj) q1 q2 q3) hl (fun _ _ _ => rfl) (fun _ _ => rfl) (fun _ _ => rfl)
      rw [cellA_obj (show hK (pL h k i v) k < 13 by rw [show hK (pL h k i v) k = ci from hc.1]; exact h13)]
      rw [show hK (pL h k i v) k = ci from hc.1]
      congr 2
      refine map_set_at _ _ _ _ _ ?_ (fun j _ hj => ?_)
      · show cz ad (fvA (pL h k i v) ci k i) = .long v
        rw [fvA_long hc.2, show hL (pL h k i v) k i = v from up2_eq]; rfl
      · show cz ad (fvA (pL h k i v) ci k j) = _
        rw [fvA_eq (h := h) (h' := pL h k i v) rfl (up2_ne (fun q => hj q.2)) rfl]
    · rename_i q ob r
      split at hh
      rotate_left
      · cases hh
      rename_i hc
      have hqn : q < hn h := by
        rcases hst (.ref q) List.mem_cons_self q rfl with z | z
        · exact z
        · exact absurd hc.2.2 (Nat.not_lt.mpr z)
      have hnf : narrow (tyOf ci i) (.ref (ad q)) = .ref (ad q) ∧ fits (tyOf ci i) (.ref (ad q)) = true := by
        have q := hc.2.1
        cases ht : tyOf ci i <;> rw [ht] at q hty <;> first | exact ⟨rfl, rfl⟩ | (cases hty; done) | (cases q; done)
      have plain : (L', st', h') = (L, r, pR h ob i (some q)) → W p l e R s m args below meth c H locs cells slots Q (F0 m pc ls ((.ref q :: .ref ob :: r).map (cz ad))) := by
        intro heq
        cases heq
        refine put_W C hw hf hfin hc.1 (v := .ref q) hnf.1 hnf.2 hd (fun H1 locs1 q1 q2 q3 => ?_)
        have hXs : (Xw ad cy h).set ob (ad ob, .inr (ci, ((List.range (nfl ci)).map (fun i => cz ad (fvA h ci ob i))).set i (cz ad (.ref q)))) = Xw ad cy (pR h ob i (some q)) := by
          refine Xw_set rfl ?_ (fun j hj => cell_pR hj)
          rw [cellA_obj (show hK (pR h ob i (some q)) ob < 13 by rw [show hK (pR h ob i (some q)) ob = ci from hc.1]; exact h13)]
          rw [show hK (pR h ob i (some q)) ob = ci from hc.1]
          congr 2
          refine map_set_at _ _ _ _ _ ?_ (fun j _ hj => ?_)
          · show cz ad (fvA (pR h ob i (some q)) ci ob i) = _
            rw [fvA_ref hc.2.1, show hR (pR h ob i (some q)) ob i = some q from up2_eq]; rfl
          · show cz ad (fvA (pR h ob i (some q)) ci ob j) = _
            rw [fvA_eq (h := h) (h' := pR h ob i (some q)) rfl rfl (up2_ne (fun z => hj z.2))]
        rw [hXs] at q1 q2
        refine kk ad cy H1 locs1 ⟨q1, q2, q3, hw.2.2.2.1, ?_⟩ hl (fun _ _ _ => rfl) (fun _ _ => rfl) (fun _ _ => rfl)
        refine ⟨hw.2.2.2.2.1, hw.2.2.2.2.2.1, fun k' i' r' hr' => ?_, hw.2.2.2.2.2.2.2⟩
        by_cases hz : k' = ob ∧ i' = i
        · have : hR (pR h ob i (some q)) k' i' = some q := if_pos hz
          rw [this] at hr'
          cases hr'
          exact hqn
        · rw [show hR (pR h ob i (some q)) k' i' = hR h k' i' from up2_ne hz] at hr'
          exact hw.2.2.2.2.2.2.1 k' i' r' hr'
      split at hh
      · rename_i k hRk
        by_cases hsw : swOK h L r ob i k q
        · rw [if_pos hsw] at hh
          cases hh
          obtain ⟨hkq, hKe, hK13, hnq, hnk, hLk, hrk⟩ := hsw
          have hkn : k < hn h := hw.2.2.2.2.2.2.1 ob i k hRk
          have hobk : ob ≠ k := fun e => by rw [e] at hc; omega
          have hobq : ob ≠ q := fun e => by rw [e] at hc; omega
          refine put_W C hw hf hfin hc.1 (v := .ref q) hnf.1 hnf.2 hd (fun H1 locs1 q1 q2 q3 => ?_)
          have hstm : (r.map (rnm k q)).map (cz (swp ad k q)) = r.map (cz ad) := by
            rw [List.map_map]
            exact List.map_congr_left fun v hv => cz_swp (hrk v hv)
          have hLm : czL (swp ad k q) (L.map (fun x => (x.1, rnm k q x.2))) = czL ad L := by
            unfold czL
            rw [List.map_map]
            exact List.map_congr_left fun v hv => by
              show (v.1, cz (swp ad k q) (rnm k q v.2)) = _
              rw [cz_swp (hLk v hv)]
          have hKs : hK (nS h k q) = hK h := rfl
          have hcell : ∀ j, j < hn h → ((Xw ad cy h).set ob (ad ob, .inr (ci, ((List.range (nfl ci)).map (fun i => cz ad (fvA h ci ob i))).set i (cz ad (.ref q)))))[swp (fun z => z) k q j]? = some (swp ad k q j, cellA (swp ad k q) (swp cy k q) (nS h k q) j) := by
            intro j hj
            have harr : ∀ (a b : Nat), 13 ≤ hK h b → hK h a = hK h b → swp cy k q a = cy b → hN (nS h k q) a = hN h b → hA (nS h k q) a = hA h b → hB (nS h k q) a = hB h b → cellA (swp ad k q) (swp cy k q) (nS h k q) a = cellA ad cy h b := by
              intro a b h1 h2 h3 h4 h5 h6
              unfold cellA
              rw [hKs, h2, h3, h4, h5, h6]
              by_cases h15 : hK h b = 15
              · rw [if_pos h15, if_pos h15]
              · rw [if_neg h15, if_neg h15, if_pos h1, if_pos h1]
            by_cases hjk : j = k
            · subst hjk
              rw [swp_k, swp_k, List.getElem?_set, if_neg hobq, Xw_at hqn]
              rw [harr j q (by omega) hKe swp_k swp_k swp_k swp_k]
            · by_cases hjq : j = q
              · subst hjq
                rw [swp_q hkq, swp_q hkq, List.getElem?_set, if_neg hobk, Xw_at hkn]
                rw [harr j k hK13 hKe.symm (swp_q hkq) (swp_q hkq) (swp_q hkq) (swp_q hkq)]
              · rw [swp_o hjk hjq, swp_o hjk hjq, List.getElem?_set, Xw_len]
                by_cases hjo : ob = j
                · subst hjo
                  rw [if_pos rfl, if_pos hj, cellA_obj (h := nS h k q) (show hK h ob < 13 by rw [hc.1]; exact h13), hKs, hc.1]
                  congr 4
                  symm
                  refine map_set_at _ _ _ _ _ ?_ (fun b _ hb => ?_)
                  · show cz (swp ad k q) (fvA h ci ob i) = _
                    rw [fvA_ref hc.2.1, hRk]
                    exact congrArg Value.ref swp_k
                  · show cz (swp ad k q) (fvA h ci ob b) = _
                    refine cz_swp0 (fun e => ?_) (fun e => ?_)
                    · unfold fvA at e
                      split at e
                      · cases e
                      · cases e
                      · cases e
                      · cases hr : hR h ob b with
                        | none => rw [hr] at e; cases e
                        | some z =>
                          rw [hr] at e
                          cases e
                          exact hb (hnk ob b hr).2
                    · unfold fvA at e
                      split at e
                      · cases e
                      · cases e
                      · cases e
                      · cases hr : hR h ob b with
                        | none => rw [hr] at e; cases e
                        | some z =>
                          rw [hr] at e
                          cases e
                          exact hnq ob b hr
                · rw [if_neg hjo, Xw_at hj]
                  by_cases hja : 13 ≤ hK h j
                  · rw [harr j j hja rfl (swp_o hjk hjq) (swp_o hjk hjq) (swp_o hjk hjq) (swp_o hjk hjq)]
                  · rw [cellA_obj (h := h) (by omega), cellA_obj (h := nS h k q) (show hK h j < 13 by omega), hKs]
                    have hz : ∀ b, cz (swp ad k q) (fvA (nS h k q) (hK h j) j b) = cz ad (fvA h (hK h j) j b) := by
                      intro b
                      rw [fvA_eq (h := h) (h' := nS h k q) rfl rfl rfl]
                      refine cz_swp0 (fun e => ?_) (fun e => ?_)
                      · unfold fvA at e
                        split at e
                        · cases e
                        · cases e
                        · cases e
                        · cases hr : hR h j b with
                          | none => rw [hr] at e; cases e
                          | some z =>
                            rw [hr] at e
                            cases e
                            exact hjo (hnk j b hr).1.symm
                      · unfold fvA at e
                        split at e
                        · cases e
                        · cases e
                        · cases e
                        · cases hr : hR h j b with
                          | none => rw [hr] at e; cases e
                          | some z =>
                            rw [hr] at e
                            cases e
                            exact hnq j b hr
                    simp only [hz]
          have hby : ∀ (j : Nat) (z : Nat × va_E), (Xw (swp ad k q) (swp cy k q) (nS h k q))[j]? = some z → ((Xw ad cy h).set ob (ad ob, .inr (ci, ((List.range (nfl ci)).map (fun i => cz ad (fvA h ci ob i))).set i (cz ad (.ref q)))))[swp (fun z => z) k q j]? = some z := by
            intro j z hz
            obtain ⟨h1, rfl⟩ := Xw_inv hz
            exact hcell j h1
          have P1 := q1.by _ hby
          have D1 := q2.by _ hby (fun a b _ _ hab => swp_inj hab)
          have hfin2 := kk (swp ad k q) (swp cy k q) H1 locs1 ⟨P1, D1, q3, ?_, hw.2.2.2.2⟩ (by rw [hLm]; exact hl) (fun j e _ => ?_) (fun j hj => ?_) (fun j hj => ?_)
          · rw [hstm] at hfin2
            exact hfin2
          · intro j hj h13j
            rw [hKs] at h13j ⊢
            have hj : j < hn h := hj
            by_cases hjk : j = k
            · subst hjk
              rw [swp_k, hKe]
              exact hw.2.2.2.1 q hqn (by omega)
            · by_cases hjq : j = q
              · subst hjq
                rw [swp_q hkq, ← hKe]
                exact hw.2.2.2.1 k hkn hK13
              · rw [swp_o hjk hjq]
                exact hw.2.2.2.1 j hj h13j
          · have e : hvS (hv h) k q j = hv h j := e
            unfold hvS at e
            by_cases c1 : j = k
            · rw [if_pos c1] at e; omega
            · by_cases c2 : j = q
              · rw [if_neg c1, if_pos c2] at e; omega
              · exact swp_o c1 c2
          · exact swp_o (fun e => by rw [e] at hj; omega) (fun e => by rw [e] at hj; omega)
          · have := hw.2.2.2.2.2.2.2
            exact swp_o (by omega) (fun e => absurd hc.2.2 (Nat.not_lt.mpr (e ▸ hj)))
        · rw [if_neg hsw] at hh
          exact plain (Option.some.inj hh).symm
      · exact plain (Option.some.inj hh).symm
    · cases hh
  · cases hh
end SNP
