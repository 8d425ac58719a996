theorem i32_nn {v : Int32} (h : 0 ≤ v.toInt) : ¬ v < 0 := fun q => by
  have := Int32.lt_iff_toInt_lt.mp q
  simp at this; omega
theorem i32_cl {v : Int32} (h : 0 ≤ v.toInt) : (v.toNatClampNeg : Int) = v.toInt := Int.toNat_of_nonneg h
section SNN
variable {p : Program} {l : Launch} {e : Env} {R : Room} {s : State} {m : MethodId} {args : Array Value} {below : List Frame} {meth : Method} {c : Code} {H : Heap} {locs : List Loc} {cells slots : Nat} {Q : State → Prop}
variable {pc : Nat} {ls : Array Slot} {D : va_G} {A : Nat → Prop} {H0 : Heap} {x : MI} {ad : Nat → Nat} {cy : Nat → ClassId} {h : Hp}
set_option maxHeartbeats 4000000 in
theorem sY_W (C : Cx p s m args meth c D A H0 x) (hw : Wd D s A H0 ad cy h H locs) {idx d : Nat} (hmlk : mlk x.2.2.2.2.1 idx = some 1001) {st r : List Value} {h' : Hp} (hh : sY st h = some (r, h')) (hd : decode x.2.1 pc = .ok (.invokestatic idx, 3)) (h0 : 0 < d) (hfr : d ≤ R.frames) (hlo : 60 * d ≤ R.locals) (hsz : ls.size = x.2.2.1)
    (kk : Nx p l e R s m args below meth c D A H0 cells slots Q ls ad h h' (pc + 3) r) : W p l e R s m args below meth c H locs cells slots Q (F0 m pc ls (st.map (cz ad))) := by
  obtain ⟨hx, hb, hml, hown, hts, hnw, -, -, -, hK0, hAA⟩ := C
  unfold sY at hh
  split at hh
  · rename_i n dp b sp a r0
    split at hh <;> cases hh
    rename_i hc
    obtain ⟨hKab, hK2, hsp, hdp, hn0, hb1, hb2, hne, hcat⟩ := hc
    have hlink := (mTab_ok _ (lk_mem hmlk)).2.2 rfl
    have hcat' : ((r.map (cz ad)).map fun v => v.category).sum ≤ 8 := by
      rw [List.map_map]
      have : (fun v : Value => v.category) ∘ cz ad = fun v => v.category := funext fun v => cz_cat ad v
      rw [this]; exact hcat
    have hloc : ((r.map (cz ad)).map fun v => v.category).sum + (nativeFrameWords "java/lang/System" "arraycopy" 5 + 11) ≤ R.locals := by
      have : nativeFrameWords "java/lang/System" "arraycopy" 5 ≤ 30 := by decide +kernel
      omega
    have e1 := i32_cl hsp
    have e2 := i32_cl hdp
    have e3 := i32_cl hn0
    rcases hK2 with h14 | h15
    · obtain ⟨hla, haa⟩ := aty_of hw h14 (by decide) (by decide)
      obtain ⟨hlb, hab⟩ := aty_of hw (hKab.symm.trans h14) (by decide) (by decide)
      have hK2 : va_K D vwCl [(cy a, .int), (cy b, .int)] s := (K1 hK0 haa).app (K1 hK0 hab)
      rw [if_pos h14] at kk
      refine va_copyi (a0 := ad a) (a := ad b) hx hb (by rw [hml]; exact hsz.symm) hown (hts _ (gw_in hlink rfl)) (hts _ (gw_in w_acopy.1 rfl)) (hts _ (gw_in w_acopy.2.1 rfl)) (hts _ (gw_in w_acopy.2.2 rfl)) hK2 hw.1 hw.2.1 hw.2.2.1 a b 0 1 (by rw [Xw_at hla, cellA_I (by omega) (by omega)]) (by rw [Xw_at hlb, cellA_I (by omega) (by omega)]) rfl rfl rfl (i32_nn hsp) (i32_nn hdp) (i32_nn hn0) (by omega) (by omega) (fun i _ => rfl) (by omega) hloc hd (fun H1 locs1 q1 q2 q3 => ?_)
      refine kk.same (hw.upd (k := b) ⟨rfl, rfl, rfl⟩ ?_ (fun j hj => cell_pA hj) q1 q2 q3) rfl rfl
      exact cell_pAs (by omega) (by omega)
    · obtain ⟨hla, haa⟩ := aty_of hw h15 (by decide) (by decide)
      obtain ⟨hlb, hab⟩ := aty_of hw (hKab.symm.trans h15) (by decide) (by decide)
      have hK2 : va_K D vwCl [(cy a, .long), (cy b, .long)] s := (K1 hK0 haa).app (K1 hK0 hab)
      rw [if_neg (by omega)] at kk
      refine va_copyl (a0 := ad a) (a := ad b) hx hb (by rw [hml]; exact hsz.symm) hown (hts _ (gw_in hlink rfl)) (hts _ (gw_in w_acopy.1 rfl)) (hts _ (gw_in w_acopy.2.1 rfl)) (hts _ (gw_in w_acopy.2.2 rfl)) hK2 hw.1 hw.2.1 hw.2.2.1 a b 0 1 (by rw [Xw_at hla, cellA_J h15]) (by rw [Xw_at hlb, cellA_J (hKab.symm.trans h15)]) rfl rfl rfl (i32_nn hsp) (i32_nn hdp) (i32_nn hn0) (by omega) (by omega) (fun i _ => rfl) (by omega) hloc hd (fun H1 locs1 q1 q2 q3 => ?_)
      refine kk.same (hw.upd (k := b) ⟨rfl, rfl, rfl⟩ ?_ (fun j hj => cell_pB hj) q1 q2 q3) rfl rfl
      exact cell_pBs (hKab.symm.trans h15)
  · cases hh
theorem sY_ok {n : Nat} {st r : List Value} {h h' : Hp} (hh : sY st h = some (r, h')) (ho : okS n st) : okS n r := by
  unfold sY at hh
  split at hh
  · split at hh <;> cases hh
    exact okS_t (okS_t (okS_t (okS_t (okS_t ho))))
  · cases hh
set_option maxHeartbeats 4000000 in
theorem sR_W (C : Cx p s m args meth c D A H0 x) {Qc : Array Value → State → Outcome → State → Prop} {free : Addr → Prop} {i : Instr} {st : List Value} {r : Option Value} (hh : sR2 x.2.2.2.1 i st = some r) (hd : decode x.2.1 pc = .ok (i, 1)) (hq : ∀ t : State, t.heap = H → s.WarmedH t.vm → Qc args s (.returned (r.map (cz ad))) t) (hf : ∀ q ∈ locs, free q.base) :
    W p l e R s m args below meth c H locs cells slots (MQ below Qc args s cells slots free) (F0 m pc ls (st.map (cz ad))) := by
  obtain ⟨hx, hb, hml, hown, hts, hnw, hr, hlocks, -, hK0, hAA⟩ := C
  unfold sR2 at hh
  split at hh
  · split at hh <;> cases hh
    rename_i hc
    rw [hc.2]
    exact W.vret hx hb (hr.trans hc.1) hq hf hd
  · split at hh
    · split at hh <;> cases hh
      rename_i hc
      rcases hc with hc | ⟨hc, hv⟩
      · exact W.iret hx hb (hr.trans hc) hq hf hd
      · refine W.zret hx hb (hr.trans hc) ?_ hq hf hd
        rcases hv with e | e <;> subst e <;> decide
    · cases hh
  · split at hh
    · split at hh <;> cases hh
      rename_i hc
      exact W.lret hx hb (hr.trans hc) hq hf hd
    · cases hh
  · split at hh
    · split at hh <;> cases hh
      rename_i hc
      rcases hc with hc | hc | hc
      · exact W.aret hx hb (hr.trans hc) (Or.inr ⟨_, rfl⟩) (Or.inr ⟨_, rfl⟩) hq hf hd
      · exact W.aret hx hb (hr.trans hc) (Or.inr ⟨_, rfl⟩) (Or.inr ⟨_, rfl⟩) hq hf hd
      · exact W.aret hx hb (hr.trans hc) (Or.inl ⟨_, rfl⟩) (Or.inr ⟨_, rfl⟩) hq hf hd
    · cases hh
  · cases hh
theorem sR_ok {n : Nat} {ret : Option FieldType} {i : Instr} {st : List Value} {r : Option Value} (hh : sR2 ret i st = some r) (ho : okS n st) : ∀ v, r = some v → okv n v := by
  unfold sR2 at hh
  split at hh
  · split at hh <;> cases hh
    intro v hv; cases hv
  · split at hh
    · split at hh <;> cases hh
      intro v hv; cases hv; exact okv_int _ _
    · cases hh
  · split at hh
    · split at hh <;> cases hh
      intro v hv; cases hv; exact okv_long _ _
    · cases hh
  · split at hh
    · split at hh <;> cases hh
      intro v hv; cases hv; exact okS_h ho
    · cases hh
  · cases hh
set_option maxHeartbeats 4000000 in
theorem oI_W (C : Cx p s m args meth c D A H0 x) {idx d : Nat} (hmlk : mlk x.2.2.2.2.1 idx = some 1000) {k : Nat} {r : List Value} (hd : decode x.2.1 pc = .ok (.invokespecial idx, 3)) (h0 : 0 < d) (hfr : d ≤ R.frames) (hlo : 60 * d ≤ R.locals) (hsz : ls.size = x.2.2.1) (hcat : catS r ≤ 8)
    (kk : W p l e R s m args below meth c H locs cells slots Q (F0 m (pc + 3) ls (r.map (cz ad)))) : W p l e R s m args below meth c H locs cells slots Q (F0 m pc ls ((.ref k :: r).map (cz ad))) := by
  obtain ⟨hx, hb, hml, hown, hts, hnw, -, -, -, hK0, hAA⟩ := C
  have hlink := (mTab_ok _ (lk_mem hmlk)).2.1 rfl
  have hcat' : ((r.map (cz ad)).map fun v => v.category).sum ≤ 8 := by
    rw [List.map_map]
    have : (fun v : Value => v.category) ∘ cz ad = fun v => v.category := funext fun v => cz_cat ad v
    rw [this]; exact hcat
  refine W.objInit (a := ad k) (rest := r.map (cz ad)) hx hb hown (hts _ (gw_in hlink rfl)) (hts _ (gw_in w_objInit.1 rfl)) (hts _ (gw_in w_objInit.2 rfl)) rfl (by rw [hml]; exact hsz) rfl hd (by omega) (by show 2 * 0 + _ + 12 ≤ _; omega) ?_
  exact kk
end SNN
