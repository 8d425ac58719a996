theorem czL_adr {h h1 : Hp} {ad ad1 : Nat → Nat} {L : ALS} {rest : List Value} (hAd : AdR h h1 ad ad1) (hOk : hOK h) (hL : okL (hn h) L) (hst : okS (hn h) rest) (hc : hv h1 = hv h ∨ rok h h1 (L.map (fun q => q.2) ++ rest)) : czL ad1 L = czL ad L ∧ rest.map (cz ad1) = rest.map (cz ad) := by
  have one : ∀ v, okv (hn h) v → (hv h1 = hv h ∨ ∀ k : Nat, v = .ref k → hK h k < 13 ∨ SB ≤ k ∨ hv h1 k = hv h k) → cz ad1 v = cz ad v := by
    intro v hv0 hcv
    cases v with
    | ref k =>
      refine congrArg Value.ref ?_
      rcases hcv with e | e
      · rcases hv0 k rfl with z | z
        · exact hAd.1 k (congrFun e k) z
        · exact hAd.2.2 k z
      · rcases e k rfl with z | z | z
        · exact hAd.2.1 k (hOK_lt hOk (Nat.le_of_lt (Nat.lt_of_lt_of_le z (by decide)))) z
        · exact hAd.2.2 k z
        · rcases hv0 k rfl with z2 | z2
          · exact hAd.1 k z z2
          · exact hAd.2.2 k z2
    | _ => rfl
  have hr : ∀ (vs : List Value), rok h h1 vs → ∀ v ∈ vs, ∀ k : Nat, v = .ref k → hK h k < 13 ∨ SB ≤ k ∨ hv h1 k = hv h k := by
    intro vs
    induction vs with
    | nil => intro _ v hv0; cases hv0
    | cons w t ih =>
      intro hro v hv0 k hk
      rcases List.mem_cons.mp hv0 with z | z
      · subst z; subst hk; exact hro.1
      · exact ih hro.2 v z k hk
  have hcc : ∀ v ∈ L.map (fun q => q.2) ++ rest, hv h1 = hv h ∨ ∀ k : Nat, v = .ref k → hK h k < 13 ∨ SB ≤ k ∨ hv h1 k = hv h k := by
    intro v hv'
    rcases hc with e | e
    · exact Or.inl e
    · exact Or.inr (hr _ e v hv')
  constructor
  · unfold czL
    refine List.map_congr_left fun q hq => ?_
    rw [one q.2 (hL q hq) (hcc _ (List.mem_append_left _ (List.mem_map.mpr ⟨q, hq, rfl⟩)))]
  · exact List.map_congr_left fun v hv' => one v (hst v hv') (hcc _ (List.mem_append_right _ hv'))
theorem sP_ok {o kd idx : Nat} {L L1 : ALS} {st st1 : List Value} {h h1 : Hp} (hsp : sP o kd idx L st h = some (L1, st1, h1)) (hOk : hOK h) (hL : okL (hn h) L) (hst : okS (hn h) st) : hn h1 = hn h ∧ hu h1 = hu h ∧ okL (hn h) L1 ∧ okS (hn h) st1 := by
  unfold sP at hsp
  split at hsp
  · split at hsp
    · cases hsp
    · split at hsp
      · split at hsp <;> cases hsp
        exact ⟨rfl, rfl, hL, okS_t (okS_t hst)⟩
      · split at hsp <;> cases hsp
        exact ⟨rfl, rfl, hL, okS_t (okS_t hst)⟩
      · rename_i q ob r0
        split at hsp
        · split at hsp
          · rename_i k hk
            have hkn := hOk.2.2.1 _ _ _ hk
            have hrn1 : ∀ v, okv (hn h) v → okv (hn h) (rnm k q v) := fun v hv => by
              unfold rnm
              split
              · intro z hz; cases hz; exact Or.inl hkn
              · exact hv
            rcases Classical.propDecidable (swOK h L r0 ob _ k q) with hsw | hsw
            · rw [if_neg hsw] at hsp; cases hsp
              exact ⟨rfl, rfl, hL, okS_t (okS_t hst)⟩
            · rw [if_pos hsw] at hsp; cases hsp
              refine ⟨rfl, rfl, fun z hz => ?_, fun z hz => ?_⟩
              · obtain ⟨w, hw2, rfl⟩ := List.mem_map.mp hz
                exact hrn1 _ (hL w hw2)
              · obtain ⟨w, hw2, rfl⟩ := List.mem_map.mp hz
                exact hrn1 _ (hst w (List.mem_cons_of_mem _ (List.mem_cons_of_mem _ hw2)))
          · cases hsp
            exact ⟨rfl, rfl, hL, okS_t (okS_t hst)⟩
        · cases hsp
      · cases hsp
  · cases hsp
theorem cast_at {X Y : String} {args : Array Value} {s : State} (h : (Cond.castable X Y).before #[] s = true) : (Cond.castable X Y).before args s = true := h
theorem sR2_thr {ret : Option FieldType} {i : Instr} {st : List Value} {r : Option Value} (hh : sR2 ret i st = some r) : isThr r = false := by
  unfold sR2 at hh
  repeat' split at hh
  all_goals cases hh
  all_goals rfl
theorem cls8 {i : Instr} (h : cls i = 8) : i = .athrow := by
  unfold cls at h
  split at h <;> first | rfl | cases h
theorem hi_287 {mi : Nat} {x : MI} (hx : mInfo mi = some x) (hmi : 290 ≤ mi) (ho : x.2.2.2.2.1 = 13) : mi = 290 := by
  unfold mInfo at hx
  rw [if_neg (by omega)] at hx
  split at hx
  · assumption
  · split at hx
    · cases hx; cases ho
    · cases hx
set_option maxHeartbeats 16000000 in
theorem snd_all {TX : (Nat → Prop) → State → Heap → Prop} {aS : Nat → Nat} (hX : SXOK TX aS) (hTP : TxP TX) : ∀ n, Snd TX aS n := by
  intro n
  induction n with
  | zero => intro d mi pc L st h r h' hrn; cases hrn
  | succ n ih =>
    intro d mi pc L st h r h' hrn x hx p l e R s m args below meth c D A H0 C hXT hLS hTX hfr hlo ad cy H locs ls cells slots Qc XC free hw hs hl hL hst hrc hrs hQ hX2 hfree
    have hOk := hw.2.2.2.2
    have hsz : ls.size = x.2.2.1 := hl.1
    have hx0 := C.1
    have hb0 := C.2.1
    -- going on with the same heap
    have same : ∀ {pc' : Nat} {L' : ALS} {st' : List Value} {ls' : Array Slot}, rn n d mi pc' L' st' h = some (r, h') → lv_has ls' x.2.2.1 (czL ad L') → okL (hn h) L' → okS (hn h) st' → W p l e R s m args below meth c H locs cells slots (vx_MQ below Qc XC args s (cells + (hn h' - hn h)) (slots + (hu h' - hu h)) free) (F0 m pc' ls' (st'.map (cz ad))) := fun hr2 hl2 hL2 hst2 => ih d mi _ _ _ h r h' hr2 x hx p l e R s m args below meth c D A H0 C hXT hLS hTX hfr hlo ad cy H locs _ cells slots Qc XC free hw hs hl2 hL2 hst2 hrc hrs hQ hX2 hfree
    -- going on with another heap
    have next : ∀ {pc' : Nat} {L' : ALS} {st' : List Value} {ls' : Array Slot} {h1 : Hp} {ad1 : Nat → Nat} {cy1 : Nat → ClassId} {H1 : Heap} {locs1 : List Loc}, rn n d mi pc' L' st' h1 = some (r, h') → Mono h h1 → Wd D s A H0 ad1 cy1 h1 H1 locs1 → AdR h h1 ad ad1 → lv_has ls' x.2.2.1 (czL ad1 L') → okL (hn h1) L' → okS (hn h1) st' → W p l e R s m args below meth c H1 locs1 (cells + (hn h1 - hn h)) (slots + (hu h1 - hu h)) (vx_MQ below Qc XC args s (cells + (hn h' - hn h)) (slots + (hu h' - hu h)) free) (F0 m pc' ls' (st'.map (cz ad1))) := by
      intro pc' L' st' ls' h1 ad1 cy1 H1 locs1 hr2 hm1 hw1 hA1 hl2 hL2 hst2
      have hm2 := rn_mono _ _ _ _ _ _ _ _ _ hr2
      have a1 := hm1.1
      have a2 := hm1.2.1
      have b1 := hm2.1
      have b2 := hm2.2.1
      have key := ih d mi _ _ _ h1 r h' hr2 x hx p l e R s m args below meth c D A H0 C hXT hLS hTX hfr hlo ad1 cy1 H1 locs1 ls' (cells + (hn h1 - hn h)) (slots + (hu h1 - hu h)) Qc XC free hw1 (fun k hk => (hA1.2.2 k hk).trans (hs k hk)) hl2 hL2 hst2 (by omega) (by omega) (fun q0 ad' cy' H' locs' t q1 q2 q3 q4 q5 => hQ q0 ad' cy' H' locs' t q1 q2 q3 (hA1.tr q4 hm1 hm2) q5) (fun q0 ad' cy' H' locs' t q1 q2 q3 q4 => hX2 q0 ad' cy' H' locs' t q1 q2 q3 (hA1.tr q4 hm1 hm2)) hfree
      rw [show cells + (hn h1 - hn h) + (hn h' - hn h1) = cells + (hn h' - hn h) by omega, show slots + (hu h1 - hu h) + (hu h' - hu h1) = slots + (hu h' - hu h) by omega] at key
      exact key
    have okL_up : ∀ {h1 : Hp} {L' : ALS}, Mono h h1 → okL (hn h) L' → okL (hn h1) L' := fun hm hq q hq2 => okv_mono (hq q hq2) hm.1
    have okS_up : ∀ {h1 : Hp} {st' : List Value}, Mono h h1 → okS (hn h) st' → okS (hn h1) st' := fun hm hq q hq2 => okv_mono (hq q hq2) hm.1
    have czL_up : ∀ {h1 : Hp} {ad1 : Nat → Nat}, (∀ k, k < hn h → ad1 k = ad k) → (∀ k, SB ≤ k → ad1 k = ad k) → czL ad1 L = czL ad L := by
      intro h1 ad1 g1 g2
      unfold czL
      refine List.map_congr_left fun q hq => ?_
      have : cz ad1 q.2 = cz ad q.2 := by
        cases hq2 : q.2 with
        | ref k =>
          refine congrArg Value.ref ?_
          rcases hL q hq k hq2 with z | z
          · exact g1 k z
          · exact g2 k z
        | _ => rfl
      rw [this]
    unfold rn at hrn
    rw [hx] at hrn
    dsimp only at hrn
    split at hrn
    · cases hrn
    rename_i i len hdec
    split at hrn
    · -- sX
      rename_i ln st1 h1 hsx
      split at hrn
      · rename_i hcnd
        obtain ⟨hln, hd1⟩ := hcnd
        have hm1 := sX_mono hsx
        have hm2 := rn_mono _ _ _ _ _ _ _ _ _ hrn
        have a1 := hm1.1
        have a2 := hm1.2.1
        have b1 := hm2.1
        have b2 := hm2.2.1
        refine hX p l e R s m args below meth c H locs cells slots _ pc ls D A H0 x ad cy h i st st1 mi len ln d h1 hx C hLS hTX hw hs hsx hdec hln hst hd1 hfr hlo hsz (by omega) (by omega) (fun ad1 cy1 H1 locs1 hw1 g1 g2 => ?_)
        refine next hrn hm1 hw1 ⟨fun k _ hk => g1 k hk, fun k hk _ => g1 k hk, g2⟩ (by rw [czL_up (h1 := h1) g1 g2]; exact hl) (okL_up hm1 hL) ?_
        -- what sX leaves on the stack
        have hw1' := hw1.2.2.2.2
        unfold sX at hsx
        split at hsx
        · split at hsx <;> cases hsx
          exact okS_c (fun k hk => by cases hk; exact Or.inr (Nat.le_add_right _ _)) hst
        · split at hsx
          · split at hsx <;> cases hsx
            exact okS_c (okv_long _ _) (okS_t (okS_t hst))
          · cases hsx
        · split at hsx <;> cases hsx
          exact okS_c (fun k hk => by cases hk; exact Or.inr (Nat.le_add_right _ _)) hst
        · split at hsx
          · split at hsx
            · split at hsx <;> cases hsx
              exact okS_c (okv_int _ _) (okS_t hst)
            · cases hsx
          · split at hsx
            · split at hsx
              · split at hsx <;> cases hsx
                exact okS_c (okv_int _ _) (okS_t (okS_t hst))
              · cases hsx
            · split at hsx
              · split at hsx
                · split at hsx <;> cases hsx
                  exact okS_c (okv_int _ _) (okS_t (okS_t hst))
                · cases hsx
              · cases hsx
        · split at hsx <;> cases hsx
          exact okS_c (fun k hk => by cases hk; exact Or.inl (Nat.lt_succ_self _)) (okS_up hm1 hst)
        · cases hsx
      · cases hrn
    split at hrn
    · -- 0: the end
      split at hrn
      · rename_i r1 hsr
        split at hrn <;> cases hrn
        rename_i h1
        subst h1
        have := sR_W (l := l) (e := e) (R := R) (below := below) (H := H) (locs := locs) (cells := cells) (slots := slots) (ls := ls) (ad := ad) (Qc := Qc) (free := free) C hsr hdec (fun t ht hW => hQ (sR2_thr hsr) ad cy H locs t hw ht hW (AdR.rf _ _) (sR_ok hsr hst)) (fun q hq => hfree _ (hw.2.2.1.2.2 q hq))
        rw [Nat.sub_self, Nat.sub_self]
        exact vx_ret this
      · cases hrn
    · split at hrn
      · rename_i st1 hsa
        split at hrn
        · rename_i h1
          subst h1
          exact sA_W ad hx0 hb0 hsa hdec (same hrn hl hL (sA_ok hsa hst))
        · cases hrn
      · cases hrn
    · split at hrn
      · rename_i ln L1 st1 hsb
        split at hrn
        · rename_i h1
          subst h1
          exact sB_W ad C hsb hdec hl (fun ls' hl' => same hrn hl' (sB_ok hsb hL hst).1 (sB_ok hsb hL hst).2)
        · cases hrn
      · cases hrn
    · split at hrn
      · rename_i cd off st1 hsj
        split at hrn
        · rename_i h1
          obtain ⟨rfl, ho⟩ := h1
          refine sJ_W ad hx0 hb0 hsj hdec ho (fun hc => ?_) (fun hc => ?_)
          · rw [if_pos hc] at hrn
            exact same hrn hl hL (sJ_ok hsj hst)
          · rw [if_neg hc] at hrn
            exact same hrn hl hL (sJ_ok hsj hst)
        · cases hrn
      · cases hrn
    · split at hrn
      · rename_i off st1 hss
        split at hrn
        · rename_i ho
          exact sS_W ad hx0 hb0 hss hdec ho (same hrn hl hL (sS_ok hss hst))
        · cases hrn
      · cases hrn
    · split at hrn
      · rename_i ln st1 h1 hsh
        split at hrn
        · rename_i h2
          subst h2
          have hm1 := sH_mono hsh
          have hm2 := rn_mono _ _ _ _ _ _ _ _ _ hrn
          have a1 := hm1.1
          have a2 := hm1.2.1
          have b1 := hm2.1
          have b2 := hm2.2.1
          refine sH_W C hw hsh hdec hst (by omega) (by omega) (fun ad1 cy1 H1 locs1 hw1 g1 g2 => ?_)
          refine next hrn hm1 hw1 ⟨fun k _ hk => g1 k hk, fun k hk _ => g1 k hk, g2⟩ (by rw [czL_up (h1 := h1) g1 g2]; exact hl) (okL_up hm1 hL) ?_
          unfold sH at hsh
          repeat' split at hsh
          all_goals cases hsh
          all_goals first
            | exact okS_c (okv_fvA hOk _ _ _) (okS_t hst)
            | exact okS_c (okv_int _ _) (okS_t hst)
            | exact okS_c (okv_int _ _) (okS_t (okS_t hst))
            | exact okS_c (okv_long _ _) (okS_t (okS_t hst))
            | exact okS_t (okS_t (okS_t hst))
            | exact okS_c (fun k hk => by cases hk; exact Or.inl (Nat.lt_succ_self _)) (okS_up hm1 (okS_t hst))
            | exact okS_c (fun k hk => by cases hk; exact Or.inl (Nat.lt_succ_self _)) (okS_up hm1 hst)
        · cases hrn
      · cases hrn
    · split at hrn
      · rename_i idx
        split at hrn
        · rename_i L1 st1 h1 hsp
          split at hrn
          · rename_i h2
            subst h2
            have hm1 := sP_mono hsp
            have hpn := sP_ok hsp hOk hL hst
            refine sP_W C hw hsp hdec hl hst (fun ad1 cy1 H1 locs1 hw1 hl1 g1 g2 g3 => ?_)
            have := next hrn hm1 hw1 ⟨g1, fun k _ hk => g2 k hk, g3⟩ hl1 (by rw [hpn.1]; exact hpn.2.2.1) (by rw [hpn.1]; exact hpn.2.2.2)
            rw [hpn.1, hpn.2.1, Nat.sub_self, Nat.sub_self] at this
            exact this
          · cases hrn
        · cases hrn
      · cases hrn
    · split at hrn
      · cases hrn
      · rename_i ck idx hsk
        split at hrn
        · rename_i h3
          subst h3
          split at hrn
          · cases hrn
          · rename_i mj hmlk
            split at hrn
            · rename_i h1000
              subst h1000
              split at hrn
              · rename_i k r0
                split at hrn
                · rename_i hcc
                  have hi : i = .invokespecial idx := by
                    unfold sK at hsk
                    split at hsk <;> cases hsk
                    · exact absurd hcc.1 (by decide)
                    · exact absurd hcc.1 (by decide)
                    · rfl
                  rw [hi] at hdec
                  exact oI_W C hmlk hdec hcc.2.1 hfr hlo hsz hcc.2.2 (same hrn hl hL (okS_t hst))
                · cases hrn
              · cases hrn
            · split at hrn
              · rename_i h1001
                subst h1001
                split at hrn
                · rename_i r0 h1 hsy
                  split at hrn
                  · rename_i hcc
                    have hi : i = .invokestatic idx := by
                      unfold sK at hsk
                      split at hsk <;> cases hsk
                      · exact absurd hcc.1 (by decide)
                      · rfl
                      · exact absurd hcc.1 (by decide)
                    rw [hi] at hdec
                    have hm1 := sY_mono hsy
                    have hne : hn h1 = hn h := by
                      unfold sY at hsy
                      split at hsy
                      · split at hsy <;> cases hsy
                        split <;> rfl
                      · cases hsy
                    refine sY_W C hw hmlk hsy hdec hcc.2 hfr hlo hsz (fun ad1 cy1 H1 locs1 hw1 g1 g2 => ?_)
                    exact next hrn hm1 hw1 ⟨fun k _ hk => g1 k hk, fun k hk _ => g1 k hk, g2⟩ (by rw [czL_up (h1 := h1) g1 g2]; exact hl) (okL_up hm1 hL) (okS_up hm1 (sY_ok hsy hst))
                  · cases hrn
                · cases hrn
              · split at hrn
                · cases hrn
                · rename_i y hy
                  rcases Classical.propDecidable (cOK h ck d y st) with hc | hc
                  · rw [if_neg hc] at hrn; cases hrn
                  · rw [if_pos hc] at hrn
                    split at hrn
                    · rename_i r1 h1 hcal
                      split at hrn
                      · rename_i ht1
                        split at hrn
                        · rename_i hto
                          split at hrn
                          · rename_i hnd0
                            cases hrn
                            refine call_T ih hTP C hLS.1 hTX hfr hlo hw hs hsz hsk hdec hmlk hy hc hcal ht1 hto hst hrc hrs (fun ad1 cy1 H1 locs1 q ce hw1 hA1 hce hcv hcl => ?_)
                            refine vx_out (fun z hz => ?_) C.2.2.2.2.2.2.2.1 hce hcv hcl (fun t ht hW => hX2 ht1 ad1 cy1 H1 locs1 t hw1 ht hW hA1) (fun z hz => hfree _ (hw1.2.2.1.2.2 z hz)) (Nat.le_refl _) (Nat.le_refl _)
                            rcases Nat.lt_or_ge mi 290 with hmi | hmi
                            · exact (hXT.1 hmi z hz).elim
                            · have hm7 : mi = 290 := hi_287 hx hmi (thr_kd hto (mInfC_s hy).2).1
                              rw [hXT.2 hm7] at hz
                              have hz' : z = ⟨81, 89, 92, 30⟩ := by simpa [tableOf] using hz
                              subst hz'
                              unfold hnd at hnd0
                              split at hnd0
                              · cases hnd0
                              · rename_i hno
                                unfold covers
                                simp only [hm7, true_and] at hno
                                simp
                                omega
                          · rename_i tg hnd1
                            rcases Classical.propDecidable (hv h1 = hv h ∨ rok h h1 (L.map (fun q => q.2))) with hc2 | hc2
                            · rw [if_neg hc2] at hrn; cases hrn
                            · rw [if_pos hc2] at hrn
                              have hm1 := rn_mono _ _ _ _ _ _ _ _ _ hcal
                              have hm2 := rn_mono _ _ _ _ _ _ _ _ _ hrn
                              have a1 := hm1.1
                              have a2 := hm1.2.1
                              have b1 := hm2.1
                              have b2 := hm2.2.1
                              unfold hnd at hnd1
                              split at hnd1
                              · rename_i hyes
                                cases hnd1
                                obtain ⟨hm7, hp1, hp2⟩ := hyes
                                have hx7 : x = bldMI := by rw [hm7] at hx; exact (Option.some.inj hx).symm
                                refine call_T ih hTP C hLS.1 hTX hfr hlo hw hs hsz hsk hdec hmlk hy hc hcal ht1 hto hst (by omega) (by omega) (fun ad1 cy1 H1 locs1 q ce hw1 hA1 hce hcv hcl => ?_)
                                obtain ⟨k1, -⟩ := czL_adr (rest := []) hA1 hOk hL (fun _ hv => by cases hv) (by rw [List.append_nil]; exact hc2)
                                refine vx_catch (own := RX13) (name := RJxb5711) (by have := C.2.2.2.1; rw [hx7] at this; exact this) [] ⟨81, 89, 92, 30⟩ [] (by rw [hXT.2 hm7]; rfl) (fun _ hz => by cases hz) (by unfold covers; simp; omega) (by decide) (C.2.2.2.2.1 _ (gw_in w_ise.2 rfl)) (cast_at (hTP.2.2.2.2 _ _ _ hTX)) hce hcv hcl ?_
                                have hlx : lv_has ls x.2.2.1 (czL ad1 L) := by rw [k1]; exact hl
                                refine lv_astore_n hx0 hb0 (i := 2) (k := 2) (by rw [hx7]; exact dX13_build_92) rfl hlx (by rw [hx7]; decide) rfl (fun ls' hl' => ?_)
                                refine next hrn hm1 hw1 hA1 ⟨hl'.1, hl'.2.1, fun z hz => hl'.2.2 z (List.mem_cons_of_mem _ ?_)⟩ (fun z hz => okv_mono (hL z (List.mem_filter.mp hz).1) hm1.1) (fun _ hv => by cases hv)
                                obtain ⟨w, hw9, rfl⟩ := List.mem_map.mp hz
                                obtain ⟨hw8, hw7⟩ := List.mem_filter.mp hw9
                                exact List.mem_filter.mpr ⟨List.mem_map.mpr ⟨w, hw8, rfl⟩, by rw [cz_cat]; exact hw7⟩
                              · cases hnd1
                        · cases hrn
                      · rename_i ht1
                        have ht1 : isThr r1 = false := by simpa using ht1
                        rcases Classical.propDecidable (hv h1 = hv h ∨ rok h h1 (L.map (fun q => q.2) ++ st.drop y.2.2.2.2.2.1)) with hc2 | hc2
                        · rw [if_neg hc2] at hrn; cases hrn
                        · rw [if_pos hc2] at hrn
                          have hm1 := rn_mono _ _ _ _ _ _ _ _ _ hcal
                          have hm2 := rn_mono _ _ _ _ _ _ _ _ _ hrn
                          have a1 := hm1.1
                          have a2 := hm1.2.1
                          have b1 := hm2.1
                          have b2 := hm2.2.1
                          have hrest : okS (hn h) (st.drop y.2.2.2.2.2.1) := fun v hv => hst v (List.mem_of_mem_drop hv)
                          refine call_W ih hTP C hLS.1 hTX hfr hlo hw hs hsz hsk hdec hmlk hy hc hcal ht1 hst (by omega) (by omega) (fun ad1 cy1 H1 locs1 hw1 hA1 hrv => ?_)
                          obtain ⟨k1, k2⟩ := czL_adr hA1 hOk hL hrest hc2
                          rw [← k2, ← List.map_append]
                          refine next hrn hm1 hw1 hA1 (by rw [k1]; exact hl) (okL_up hm1 hL) (fun v hv => ?_)
                          rcases List.mem_append.mp hv with z | z
                          · cases r1 with
                            | none => cases z
                            | some w =>
                              have : v = w := by simpa using z
                              rw [this]
                              exact hrv w rfl
                          · exact okv_mono (hrest v z) hm1.1
                    · cases hrn
        · cases hrn
    · split at hrn
      · rename_i k r0
        split at hrn
        · rename_i hc8
          cases hrn
          obtain ⟨hc8, hk0, hmi⟩ := hc8
          subst hc8
          have hi : i = .athrow := cls8 (by assumption)
          rw [hi] at hdec
          have hkn := hOK_lt hOk (Nat.le_trans (Nat.le_of_eq hk0) (by decide : 0 ≤ 16))
          have hat := hw.1 _ _ (Xw_at hkn)
          rw [cellA_obj (by rw [hk0]; decide), hk0] at hat
          obtain ⟨q0, hq0, cell, hc1, hc2, hc3, -⟩ := hat
          cases hq0
          have hcl : s.vm.findClass RJxb5711 = some cell.cls := by rw [hc2]; exact (C.2.2.2.2.2.2.2.2.2.1.1 0 _ rfl).2.1
          rw [Nat.sub_self, Nat.sub_self]
          refine vx_athrow hx0 hb0 C.2.2.2.2.2.2.2.1 hdec (fun z hz => ?_) hc1 hc3 hcl (fun t ht hW => hX2 rfl ad cy H locs t hw ht hW (AdR.rf _ _)) (fun z hz => hfree _ (hw.2.2.1.2.2 z hz)) (Nat.le_refl _) (Nat.le_refl _)
          exact hXT.1 hmi z hz
        · cases hrn
      · cases hrn
    · cases hrn
