/-! the texts, the row WORD, statics that are read; String's own methods at them -/
def sOw (j : Nat) : String × Nat := match j with
  | 0 => (RX4, 50) | 1 => (RX4, 56) | 2 => (RX4, 58) | 3 => (RX4, 60) | 4 => (RX7, 131) | _ => (RX13, 32)
def lenS : List Nat := (List.range 6).map (fun j => (sCh j).length)
def bytS : List (List Int32) := (List.range 6).map (fun j => (sCh j).map nI)
def BW : List Cond := [.castable RJxb5711 RJxb5711, .declares (Bundle.initS "java/lang/RuntimeException"), .declares (Bundle.initS "java/lang/Exception"), .declares (Bundle.initS "java/lang/Throwable")]
theorem bw_at {w : Cond} (hw : w ∈ BW) {s U : State} (h : s.vm.Alike U.vm) {a : Array Value} (hb : w.before #[] s = true) : w.before a U = true := by
  have hon : w.onTables = true ∧ (w.castAtom = true ∨ w.faceAtom = true) := by
    unfold BW at hw
    simp only [List.mem_cons, List.not_mem_nil, or_false] at hw
    rcases hw with e | e | e | e <;> (rw [e]; decide)
  have h1 : w.before #[] (s.setVm U.vm) = true := by
    rcases hon.2 with q | q
    · exact Cond.castAtom_setVm h w q hb
    · exact Cond.faceAtom_setVm h w q hb
  rw [Cond.onTables_vm (A' := a) (U' := U) U.vm w hon.1] at h1
  exact h1
def TXX (aS : Nat → Nat) (A : Nat → Prop) (U : State) (H : Heap) : Prop :=
  (vk_S 6 lenS bytS (fun i => aS (SB + i)) (fun i => aS (SB + 20 + i)) A U H ∧ va_Z RX13 "WORD" "[J" (.ref (aS (SB + 100))) A U H ∧ va_T .long (aS (SB + 100)) 31 (fun i => .long (wordTab.getD i 0)) A U H ∧ va_Z RJ0 "COMPACT_STRINGS" "Z" (.int 1) A U H) ∧
  ((∀ w ∈ BW, w.before #[] U = true) ∧ ∀ j : Nat, j < 6 → vk_R (sOw j).1 (sOw j).2 (sTx j) (aS (SB + j)) U) ∧
  vx_Zq Bundle.tN "UNASSIGNED_STACK" Bundle.steD A U H ∧ vx_Zq Bundle.tN "SUPPRESSED_SENTINEL" Bundle.listD A U H ∧ va_Zq RJ3 "SIOOBE_FORMATTER" "Ljava/util/function/BiFunction;" A U H
theorem txp (aS : Nat → Nat) : TxP (TXX aS) := by
  refine ⟨fun A u U H hv h => ?_, fun A s U H hW h => ?_, fun A U H H1 h hq => ?_, fun A B U H h hAB => ?_, fun A U H h => h.2.1.1 _ List.mem_cons_self⟩
  · obtain ⟨⟨a, b, c, d⟩, ⟨bw, r⟩, x, y, z⟩ := h
    have ha : u.vm.Alike U.vm := by rw [hv]; exact Vm.Alike.refl _
    exact ⟨⟨a.moved ha, b.moved ha, c.moved ha, d.moved ha⟩, ⟨fun w hw => bw_at hw ha (bw w hw), fun j hj => (r j hj).same hv.symm⟩, x.moved ha, y.moved ha, z.moved ha⟩
  · obtain ⟨⟨a, b, c, d⟩, ⟨bw, r⟩, x, y, z⟩ := h
    have ha : s.vm.Alike U.vm := hW.alike
    exact ⟨⟨a.moved ha, b.moved ha, c.moved ha, d.moved ha⟩, ⟨fun w hw => bw_at hw ha (bw w hw), fun j hj => (r j hj).warm hW⟩, x.moved ha, y.moved ha, z.moved ha⟩
  · obtain ⟨⟨a, b, c, d⟩, ⟨bw, r⟩, x, y, z⟩ := h
    exact ⟨⟨a.kept hq, b.kept hq, c.kept hq, d.kept hq⟩, ⟨bw, r⟩, x.kept hq, y.kept hq, z.kept hq⟩
  · obtain ⟨⟨a, b, c, d⟩, ⟨bw, r⟩, x, y, z⟩ := h
    exact ⟨⟨a.narrow hAB, b.narrow hAB, c.narrow hAB, d.narrow hAB⟩, ⟨bw, r⟩, x.narrow hAB, y.narrow hAB, z.narrow hAB⟩
section JDKC
variable {p : Program} {l : Launch} {e : Env} {R : Room} {s : State} {m : MethodId} {args : Array Value} {below : List Frame} {meth : Method} {c : Code} {H : Heap} {locs : List Loc} {cells slots : Nat} {Q : State → Prop}
variable {cc : ByteArray} {pc : Nat} {ls : Array Slot} {rest : List Value} {aS : Nat → Nat}
theorem jcall {r : Option Value} {st0 : List Value} (hr : va_Run p l e R s m args below meth c H locs cells slots 0 0 (F0 m pc ls st0) rest (fun st o t => o = .returned r ∧ t.heap = st.heap) (fun _ => False)) (kk : W p l e R s m args below meth c H locs cells slots Q (F0 m (pc + 3) ls (r.toList ++ rest))) : W p l e R s m args below meth c H locs cells slots Q (F0 m pc ls st0) := by
  intro T hT X
  obtain ⟨v, st₀, t, T', L, h0, X', hL, e1, e2, ⟨ho, ht⟩, st⟩ := hr T hT X
  have hL0 : L = [] := by
    cases L with
    | nil => rfl
    | cons q t => exact (hL q List.mem_cons_self).elim
  subst hL0
  have hv : v = r := Outcome.returned.inj ho
  subst hv
  rw [List.append_nil] at X'
  obtain ⟨t2, a1, b1⟩ := kk T' (e1.trans (ht.trans h0)) X'
  exact ⟨t2, st t2 a1, b1⟩
def PTX (aS : Nat → Nat) (sz : Nat) (U : State) : Prop := U.heap.size = sz ∧ TXX aS (fun q => sz ≤ q) U U.heap
theorem ptx_blind {vs : List Value} {sz : Nat} : FrameBlind (va_Pc vs (PTX aS sz)) := fun a U g mk q => by
  obtain ⟨q0, q1, q2⟩ := q
  exact ⟨q0, q1, (txp aS).1 _ U (U.calling g mk a) _ rfl q2⟩
def JMet (l : Launch) (y : MethodName) (cy : ByteArray) (mY : Nat) (rY : Option FieldType) (d : Nat) (As : List Value) (r : Option Value) (aS : Nat → Nat) (sz : Nat) : Prop :=
  Met l y (Cond.code y cy mY rY :: GW) { frames := d, cells := 0, slots := 0, locals := 60 * d } (va_Pc As (PTX aS sz)) (fun _ st o t => o = .returned r ∧ t.heap = st.heap) 0 0 (fun _ => False)
theorem jgood {y : MethodName} {cy : ByteArray} {mY : Nat} {rY : Option FieldType} (hcode : Cond.code y cy mY rY ∈ lw_tbl) : GoodIn GW (Cond.code y cy mY rY :: GW) := fun w hw => by
  rcases List.mem_cons.mp hw with e | e
  · rw [e]; exact ⟨gw_in hcode rfl, good_of_word rfl⟩
  · exact ⟨e, good_of_word (List.mem_filter.mp e).2⟩
section
variable {y : MethodName} {cy : ByteArray} {mY : Nat} {rY : Option FieldType} {d nL idx : Nat} {As : List Value} {r : Option Value} {own : String}
theorem jS (S : CallFix p m c cc nL s args GW own) (hT : TXX aS (fun q => H.size ≤ q) s H) (hM : JMet l y cy mY rY d As r aS H.size) (F : Cond.code y cy mY rY ∈ lw_tbl ∧ Cond.initialized y.cls ∈ lw_tbl ∧ Cond.static y ∈ lw_tbl) (hlink : Cond.methodLink own idx y ∈ lw_tbl)
    (hD : y.cls ≠ "java/lang/invoke/MethodHandle" ∧ y.cls ≠ "java/lang/invoke/VarHandle" ∧ (parseMethodDescriptor y.desc).map (fun d => d.parameters.length) = some As.length) (hm : mY ≤ 41) (hf : d + 1 ≤ R.frames) (hlo : 60 * (d + 1) ≤ R.locals) (hsz : ls.size = nL) (hcat : (rest.map fun v => v.category).sum ≤ 8) (hdec : decode cc pc = .ok (.invokestatic idx, 3)) (hc : cells ≤ R.cells) (hs : slots ≤ R.slots)
    {st0 : List Value} (hst : st0 = As.reverse ++ rest) (kk : W p l e R s m args below meth c H locs cells slots Q (F0 m (pc + 3) ls (r.toList ++ rest))) : W p l e R s m args below meth c H locs cells slots Q (F0 m pc ls st0) :=
  jcall (va_runS (Ts := GW) S hM ⟨callB_of (ws' := GW) As.length S.2.2.2.2 (jgood F.1) rfl rfl rfl (S.2.2.2.2 _ (gw_in F.2.1 rfl)) (S.2.2.2.2 _ (gw_in hlink rfl)) hD ⟨hf, by show 8 + (mY + 11) + 60 * d ≤ _; omega⟩, S.2.2.2.2 _ (gw_in F.2.2 rfl)⟩ ⟨ptx_blind, fun U hU hW => ⟨rfl, by rw [hU], by rw [hU]; exact (txp aS).2.1 _ s U _ hW hT⟩⟩ rfl rfl hsz hst (lv_room hcat) hdec ⟨hc, hs⟩) kk
theorem jV {i : Nat} (hi : i < 6) (S : CallFix p m c cc nL s args GW own) (hT : TXX aS (fun q => H.size ≤ q) s H) (hM : JMet l y cy mY rY d (.ref (aS (SB + i)) :: As) r aS H.size) (F : Cond.code y cy mY rY ∈ lw_tbl ∧ Cond.initialized y.cls ∈ lw_tbl ∧ Cond.instanceMethod y ∈ lw_tbl ∧ Cond.selects y.cls y y ∈ lw_tbl) (hlink : Cond.methodLink own idx y ∈ lw_tbl)
    (hD : y.cls ≠ "java/lang/invoke/MethodHandle" ∧ y.cls ≠ "java/lang/invoke/VarHandle" ∧ (parseMethodDescriptor y.desc).map (fun d => d.parameters.length) = some As.length) (hcl : y.cls = "java/lang/String") (hm : mY ≤ 41) (hf : d + 1 ≤ R.frames) (hlo : 60 * (d + 1) ≤ R.locals) (hsz : ls.size = nL) (hcat : (rest.map fun v => v.category).sum ≤ 8) (hdec : decode cc pc = .ok (.invokevirtual idx, 3)) (hc : cells ≤ R.cells) (hs : slots ≤ R.slots)
    {st0 : List Value} (hst : st0 = As.reverse ++ .ref (aS (SB + i)) :: rest) (kk : W p l e R s m args below meth c H locs cells slots Q (F0 m (pc + 3) ls (r.toList ++ rest))) : W p l e R s m args below meth c H locs cells slots Q (F0 m pc ls st0) := by
  obtain ⟨cell, h1, h2, h3, -⟩ := (hT.1.1.1 i hi).1
  exact jcall (va_runV (Ts := GW) S hM ⟨callB_of (ws' := GW) As.length S.2.2.2.2 (jgood F.1) rfl rfl rfl (S.2.2.2.2 _ (gw_in F.2.1 rfl)) (S.2.2.2.2 _ (gw_in hlink rfl)) hD ⟨hf, by show 8 + (mY + 11) + 60 * d ≤ _; omega⟩, S.2.2.2.2 _ (gw_in F.2.2.1 rfl), S.2.2.2.2 _ (gw_in F.2.2.2 rfl)⟩ ⟨ptx_blind, ⟨cell, h1, h2, by rw [hcl]; exact h3⟩, fun U hU hW => ⟨rfl, by rw [hU], by rw [hU]; exact (txp aS).2.1 _ s U _ hW hT⟩⟩ rfl rfl hsz hst (lv_room hcat) hdec ⟨hc, hs⟩) kk
theorem j_met {sz : Nat} (hpl : plainFor y = true) (hlen : (lg_sl As).length ≤ mY)
    (body : ∀ (p : Program) (e : Env) (s : State) (m : MethodId) (below : List Frame) (meth : Method) (c : Code) (ls : Array Slot), CallFix p m c cy mY s As.toArray GW y.cls → s.heap.size = sz → TXX aS (fun q => s.heap.size ≤ q) s s.heap → meth.sig.returnType = rY → meth.locks = false → lv_has ls mY (lv_args 0 As) → W p l e { frames := d, cells := 0, slots := 0, locals := 60 * d } s m As.toArray below meth c s.heap [] 0 0 (MQ below (fun _ st o t => o = .returned r ∧ t.heap = st.heap) As.toArray s 0 0 (fun _ => False)) (F0 m 0 ls [])) : JMet l y cy mY rY d As r aS sz := by
  refine Met.ofWF (cc := cy) (maxL := mY) (ret := rY) hpl rfl ?_
  intro p e s m args below meth c s₁ B hml hv
  obtain ⟨rfl, hsz, hT⟩ := hv
  have hts := atoms_spec (ws := Cond.code y cy mY rY :: GW) B.pre
  rw [lg_entry_eq]
  subst hsz
  exact body p e s m below meth c _ ⟨B.exec, B.bytes, hml, findClass_of_methodNamed B.named, fun w hw => hts w (List.mem_cons_of_mem _ hw)⟩ rfl hT B.returns B.notSynchronized (lv_entry As hlen)
end
end JDKC
theorem jw_length : Cond.code yJ0_length_8abf5 cJ0_length_8abf5 1 (some .int) ∈ lw_tbl ∧ Cond.initialized yJ0_length_8abf5.cls ∈ lw_tbl ∧ Cond.instanceMethod yJ0_length_8abf5 ∈ lw_tbl ∧ Cond.selects yJ0_length_8abf5.cls yJ0_length_8abf5 yJ0_length_8abf5 ∈ lw_tbl := ⟨(tin_3 _ (List.mem_of_getElem? (i := 5) (by decide +kernel))), (tin_1 _ (List.mem_of_getElem? (i := 21) (by decide +kernel))), (tin_3 _ (List.mem_of_getElem? (i := 3) (by decide +kernel))), (tin_3 _ (List.mem_of_getElem? (i := 4) (by decide +kernel)))⟩
theorem jw_coder : Cond.code yJ0_coder_7d493 cJ0_coder_7d493 1 (some .byte) ∈ lw_tbl ∧ Cond.initialized yJ0_coder_7d493.cls ∈ lw_tbl ∧ Cond.instanceMethod yJ0_coder_7d493 ∈ lw_tbl ∧ Cond.selects yJ0_coder_7d493.cls yJ0_coder_7d493 yJ0_coder_7d493 ∈ lw_tbl := ⟨(tin_3 _ (List.mem_of_getElem? (i := 9) (by decide +kernel))), (tin_1 _ (List.mem_of_getElem? (i := 21) (by decide +kernel))), (tin_3 _ (List.mem_of_getElem? (i := 7) (by decide +kernel))), (tin_3 _ (List.mem_of_getElem? (i := 8) (by decide +kernel)))⟩
theorem jw_isLatin1 : Cond.code yJ0_isLatin1_aae02 cJ0_isLatin1_aae02 1 (some .boolean) ∈ lw_tbl ∧ Cond.initialized yJ0_isLatin1_aae02.cls ∈ lw_tbl ∧ Cond.instanceMethod yJ0_isLatin1_aae02 ∈ lw_tbl ∧ Cond.selects yJ0_isLatin1_aae02.cls yJ0_isLatin1_aae02 yJ0_isLatin1_aae02 ∈ lw_tbl := ⟨(tin_3 _ (List.mem_of_getElem? (i := 19) (by decide +kernel))), (tin_1 _ (List.mem_of_getElem? (i := 21) (by decide +kernel))), (tin_3 _ (List.mem_of_getElem? (i := 17) (by decide +kernel))), (tin_3 _ (List.mem_of_getElem? (i := 18) (by decide +kernel)))⟩
theorem jw_charAt : Cond.code yJ0_charAt_5068e cJ0_charAt_5068e 2 (some .char) ∈ lw_tbl ∧ Cond.initialized yJ0_charAt_5068e.cls ∈ lw_tbl ∧ Cond.instanceMethod yJ0_charAt_5068e ∈ lw_tbl ∧ Cond.selects yJ0_charAt_5068e.cls yJ0_charAt_5068e yJ0_charAt_5068e ∈ lw_tbl := ⟨(tin_3 _ (List.mem_of_getElem? (i := 15) (by decide +kernel))), (tin_1 _ (List.mem_of_getElem? (i := 21) (by decide +kernel))), (tin_3 _ (List.mem_of_getElem? (i := 13) (by decide +kernel))), (tin_3 _ (List.mem_of_getElem? (i := 14) (by decide +kernel)))⟩
theorem jw_l1charAt : Cond.code yJ1_charAt_3b067 cJ1_charAt_3b067 2 (some .char) ∈ lw_tbl ∧ Cond.initialized yJ1_charAt_3b067.cls ∈ lw_tbl ∧ Cond.static yJ1_charAt_3b067 ∈ lw_tbl := ⟨(tin_3 _ (List.mem_of_getElem? (i := 22) (by decide +kernel))), (tin_1 _ (List.mem_of_getElem? (i := 22) (by decide +kernel))), (tin_3 _ (List.mem_of_getElem? (i := 21) (by decide +kernel)))⟩
theorem jw_checkIndex : Cond.code yJ0_checkIndex_df160 cJ0_checkIndex_df160 2 none ∈ lw_tbl ∧ Cond.initialized yJ0_checkIndex_df160.cls ∈ lw_tbl ∧ Cond.static yJ0_checkIndex_df160 ∈ lw_tbl := ⟨(tin_3 _ (List.mem_of_getElem? (i := 25) (by decide +kernel))), (tin_1 _ (List.mem_of_getElem? (i := 21) (by decide +kernel))), (tin_3 _ (List.mem_of_getElem? (i := 24) (by decide +kernel)))⟩
theorem jw_pcheckIndex : Cond.code yJ3_checkIndex_8e157 cJ3_checkIndex_8e157 3 (some .int) ∈ lw_tbl ∧ Cond.initialized yJ3_checkIndex_8e157.cls ∈ lw_tbl ∧ Cond.static yJ3_checkIndex_8e157 ∈ lw_tbl := ⟨(tin_3 _ (List.mem_of_getElem? (i := 30) (by decide +kernel))), (tin_1 _ (List.mem_of_getElem? (i := 23) (by decide +kernel))), (tin_3 _ (List.mem_of_getElem? (i := 29) (by decide +kernel)))⟩
theorem jw_indexOf1 : Cond.code yJ0_indexOf_0f7a4 cJ0_indexOf_0f7a4 2 (some .int) ∈ lw_tbl ∧ Cond.initialized yJ0_indexOf_0f7a4.cls ∈ lw_tbl ∧ Cond.instanceMethod yJ0_indexOf_0f7a4 ∈ lw_tbl ∧ Cond.selects yJ0_indexOf_0f7a4.cls yJ0_indexOf_0f7a4 yJ0_indexOf_0f7a4 ∈ lw_tbl := ⟨(tin_3 _ (List.mem_of_getElem? (i := 102) (by decide +kernel))), (tin_1 _ (List.mem_of_getElem? (i := 21) (by decide +kernel))), (tin_3 _ (List.mem_of_getElem? (i := 100) (by decide +kernel))), (tin_3 _ (List.mem_of_getElem? (i := 101) (by decide +kernel)))⟩
theorem jw_indexOf2 : Cond.code yJ0_indexOf_7cf53 cJ0_indexOf_7cf53 3 (some .int) ∈ lw_tbl ∧ Cond.initialized yJ0_indexOf_7cf53.cls ∈ lw_tbl ∧ Cond.instanceMethod yJ0_indexOf_7cf53 ∈ lw_tbl ∧ Cond.selects yJ0_indexOf_7cf53.cls yJ0_indexOf_7cf53 yJ0_indexOf_7cf53 ∈ lw_tbl := ⟨(tin_3 _ (List.mem_of_getElem? (i := 106) (by decide +kernel))), (tin_1 _ (List.mem_of_getElem? (i := 21) (by decide +kernel))), (tin_3 _ (List.mem_of_getElem? (i := 104) (by decide +kernel))), (tin_3 _ (List.mem_of_getElem? (i := 105) (by decide +kernel)))⟩
theorem jw_l1indexOf : Cond.code yJ1_indexOf_4cfef cJ1_indexOf_4cfef 4 (some .int) ∈ lw_tbl ∧ Cond.initialized yJ1_indexOf_4cfef.cls ∈ lw_tbl ∧ Cond.static yJ1_indexOf_4cfef ∈ lw_tbl := ⟨(tin_3 _ (List.mem_of_getElem? (i := 110) (by decide +kernel))), (tin_1 _ (List.mem_of_getElem? (i := 22) (by decide +kernel))), (tin_3 _ (List.mem_of_getElem? (i := 109) (by decide +kernel)))⟩
theorem jw_canEncode : Cond.code yJ1_canEncode_9a6ad cJ1_canEncode_9a6ad 1 (some .boolean) ∈ lw_tbl ∧ Cond.initialized yJ1_canEncode_9a6ad.cls ∈ lw_tbl ∧ Cond.static yJ1_canEncode_9a6ad ∈ lw_tbl := ⟨(tin_3 _ (List.mem_of_getElem? (i := 113) (by decide +kernel))), (tin_1 _ (List.mem_of_getElem? (i := 22) (by decide +kernel))), (tin_3 _ (List.mem_of_getElem? (i := 112) (by decide +kernel)))⟩
theorem jw_l1indexOfChar : Cond.code yJ1_indexOfChar_4cfef cJ1_indexOfChar_4cfef 6 (some .int) ∈ lw_tbl ∧ Cond.initialized yJ1_indexOfChar_4cfef.cls ∈ lw_tbl ∧ Cond.static yJ1_indexOfChar_4cfef ∈ lw_tbl := ⟨(tin_3 _ (List.mem_of_getElem? (i := 118) (by decide +kernel))), (tin_1 _ (List.mem_of_getElem? (i := 22) (by decide +kernel))), (tin_3 _ (List.mem_of_getElem? (i := 117) (by decide +kernel)))⟩
theorem jl_RJ0_335 : Cond.methodLink RJ0 335 yJ0_coder_7d493 ∈ lw_tbl := (tin_3 _ (List.mem_of_getElem? (i := 6) (by decide +kernel)))
theorem jl_RJ0_492 : Cond.methodLink RJ0 492 yJ0_isLatin1_aae02 ∈ lw_tbl := (tin_3 _ (List.mem_of_getElem? (i := 16) (by decide +kernel)))
theorem jl_RJ0_495 : Cond.methodLink RJ0 495 yJ1_charAt_3b067 ∈ lw_tbl := (tin_3 _ (List.mem_of_getElem? (i := 20) (by decide +kernel)))
theorem jl_RJ1_9 : Cond.methodLink RJ1 9 yJ0_checkIndex_df160 ∈ lw_tbl := (tin_3 _ (List.mem_of_getElem? (i := 23) (by decide +kernel)))
theorem jl_RJ0_1059 : Cond.methodLink RJ0 1059 yJ3_checkIndex_8e157 ∈ lw_tbl := (tin_3 _ (List.mem_of_getElem? (i := 28) (by decide +kernel)))
theorem jl_RJ0_633 : Cond.methodLink RJ0 633 yJ0_indexOf_7cf53 ∈ lw_tbl := (tin_3 _ (List.mem_of_getElem? (i := 103) (by decide +kernel)))
theorem jl_RJ0_505 : Cond.methodLink RJ0 505 yJ0_length_8abf5 ∈ lw_tbl := (tin_3 _ (List.mem_of_getElem? (i := 107) (by decide +kernel)))
theorem jl_RJ0_637 : Cond.methodLink RJ0 637 yJ1_indexOf_4cfef ∈ lw_tbl := (tin_3 _ (List.mem_of_getElem? (i := 108) (by decide +kernel)))
theorem jl_RJ1_88 : Cond.methodLink RJ1 88 yJ1_canEncode_9a6ad ∈ lw_tbl := (tin_3 _ (List.mem_of_getElem? (i := 111) (by decide +kernel)))
theorem jl_RJ1_95 : Cond.methodLink RJ1 95 yJ1_indexOfChar_4cfef ∈ lw_tbl := (tin_3 _ (List.mem_of_getElem? (i := 116) (by decide +kernel)))
theorem jl_RX4_65 : Cond.methodLink RX4 65 yJ0_length_8abf5 ∈ lw_tbl := (tin_3 _ (List.mem_of_getElem? (i := 2) (by decide +kernel)))
theorem jl_RX4_71 : Cond.methodLink RX4 71 yJ0_charAt_5068e ∈ lw_tbl := (tin_3 _ (List.mem_of_getElem? (i := 12) (by decide +kernel)))
theorem jl_RX7_133 : Cond.methodLink RX7 133 yJ0_indexOf_0f7a4 ∈ lw_tbl := (tin_3 _ (List.mem_of_getElem? (i := 99) (by decide +kernel)))
theorem jm_max : Cond.methodLink RJ1 92 Lib.Math.max.name ∈ lw_tbl ∧ Cond.static Lib.Math.max.name ∈ lw_tbl ∧ Cond.initialized "java/lang/Math" ∈ lw_tbl ∧ Cond.code Lib.Math.max.name Lib.Math.max.code 2 (some .int) ∈ lw_tbl := ⟨(tin_3 _ (List.mem_of_getElem? (i := 114) (by decide +kernel))), (tin_2 _ (List.mem_of_getElem? (i := 203) (by decide +kernel))), (tin_1 _ (List.mem_of_getElem? (i := 17) (by decide +kernel))), (tin_2 _ (List.mem_of_getElem? (i := 204) (by decide +kernel)))⟩
theorem jm_min : Cond.methodLink RJ1 38 Lib.Math.min.name ∈ lw_tbl ∧ Cond.static Lib.Math.min.name ∈ lw_tbl ∧ Cond.initialized "java/lang/Math" ∈ lw_tbl ∧ Cond.code Lib.Math.min.name Lib.Math.min.code 2 (some .int) ∈ lw_tbl := ⟨(tin_3 _ (List.mem_of_getElem? (i := 115) (by decide +kernel))), (tin_2 _ (List.mem_of_getElem? (i := 193) (by decide +kernel))), (tin_1 _ (List.mem_of_getElem? (i := 17) (by decide +kernel))), (tin_2 _ (List.mem_of_getElem? (i := 194) (by decide +kernel)))⟩
theorem jf_compact : Cond.fieldLink "java/lang/String" 38 "java/lang/String" "COMPACT_STRINGS" "Z" ∈ lw_tbl := (tin_3 _ (List.mem_of_getElem? (i := 10) (by decide +kernel)))
theorem jf_value : Cond.fieldLink "java/lang/String" 9 "java/lang/String" "value" "[B" ∈ lw_tbl := (tin_9 _ (List.mem_of_getElem? (i := 181) (by decide +kernel)))
theorem jf_coder : Cond.fieldLink "java/lang/String" 15 "java/lang/String" "coder" "B" ∈ lw_tbl := (tin_9 _ (List.mem_of_getElem? (i := 182) (by decide +kernel)))
theorem jf_sio : Cond.fieldLink "java/lang/String" 1053 "jdk/internal/util/Preconditions" "SIOOBE_FORMATTER" "Ljava/util/function/BiFunction;" ∈ lw_tbl := (tin_3 _ (List.mem_of_getElem? (i := 26) (by decide +kernel)))
theorem jf_word : Cond.fieldLink "BracketTongueModel" 199 "BracketTongueModel" "WORD" "[J" ∈ lw_tbl := (tin_8 _ (List.mem_of_getElem? (i := 71) (by decide +kernel)))
section JDKM
variable {l : Launch} {aS : Nat → Nat} {sz : Nat}
theorem jc_coder {i : Nat} (hi : i < 6) : JMet l yJ0_coder_7d493 cJ0_coder_7d493 1 (some .byte) 0 [.ref (aS (SB + i))] (some (.int 0)) aS sz :=
  j_met (by decide) (Nat.le_refl 1) fun p e s m below meth c ls S hsz hT hr hlk hl => by
    have hE := hT.1.1.1 i hi
    refine va_gets S.1 S.2.1 hT.1.2.2.2 va_S.rf S.2.2.2.1 (S.2.2.2.2 _ (gw_in jf_compact rfl)) (fun _ h => h) dJ0_coder_7d493_0 ?_
    refine lv_if_eq S.1 S.2.1 dJ0_coder_7d493_3 (tgt := 13) (by decide) (fun h => absurd h (by decide)) (fun _ => ?_)
    refine lv_aload_n S.1 S.2.1 dJ0_coder_7d493_6 rfl (lv_at hl 0 rfl) ?_
    refine vk_getf S.1 S.2.1 hE.2.1 va_S.rf S.2.2.2.1 (S.2.2.2.2 _ (gw_in jf_coder rfl)) (fun _ h => h) dJ0_coder_7d493_7 ?_
    refine lv_goto S.1 S.2.1 dJ0_coder_7d493_10 (tgt := 14) (by decide) ?_
    exact W.zret S.1 S.2.1 hr (by decide) (fun t ht _ => ⟨rfl, ht⟩) (fun _ h => nomatch h) dJ0_coder_7d493_14
theorem jc_isLatin1 {i : Nat} (hi : i < 6) : JMet l yJ0_isLatin1_aae02 cJ0_isLatin1_aae02 1 (some .boolean) 0 [.ref (aS (SB + i))] (some (.int 1)) aS sz :=
  j_met (by decide) (Nat.le_refl 1) fun p e s m below meth c ls S hsz hT hr hlk hl => by
    have hE := hT.1.1.1 i hi
    refine va_gets S.1 S.2.1 hT.1.2.2.2 va_S.rf S.2.2.2.1 (S.2.2.2.2 _ (gw_in jf_compact rfl)) (fun _ h => h) dJ0_isLatin1_aae02_0 ?_
    refine lv_if_eq S.1 S.2.1 dJ0_isLatin1_aae02_3 (tgt := 17) (by decide) (fun h => absurd h (by decide)) (fun _ => ?_)
    refine lv_aload_n S.1 S.2.1 dJ0_isLatin1_aae02_6 rfl (lv_at hl 0 rfl) ?_
    refine vk_getf S.1 S.2.1 hE.2.1 va_S.rf S.2.2.2.1 (S.2.2.2.2 _ (gw_in jf_coder rfl)) (fun _ h => h) dJ0_isLatin1_aae02_7 ?_
    refine lv_if_ne S.1 S.2.1 dJ0_isLatin1_aae02_10 (tgt := 17) (by decide) (fun h => absurd rfl h) (fun _ => ?_)
    refine lv_iconst S.1 S.2.1 (v := 1) dJ0_isLatin1_aae02_13 (by decide) ?_
    refine lv_goto S.1 S.2.1 dJ0_isLatin1_aae02_14 (tgt := 18) (by decide) ?_
    exact W.zret S.1 S.2.1 hr (by decide) (fun t ht _ => ⟨rfl, ht⟩) (fun _ h => nomatch h) dJ0_isLatin1_aae02_18
theorem jc_length {i : Nat} (hi : i < 6) : JMet l yJ0_length_8abf5 cJ0_length_8abf5 1 (some .int) 1 [.ref (aS (SB + i))] (some (.int (nI (lenS.getD i 0)))) aS sz :=
  j_met (by decide) (Nat.le_refl 1) fun p e s m below meth c ls S hsz hT hr hlk hl => by
    have hE := hT.1.1.1 i hi
    refine lv_aload_n S.1 S.2.1 dJ0_length_8abf5_0 rfl (lv_at hl 0 rfl) ?_
    refine vk_getf S.1 S.2.1 hE.2.2.1 va_S.rf S.2.2.2.1 (S.2.2.2.2 _ (gw_in jf_value rfl)) (fun _ h => h) dJ0_length_8abf5_1 ?_
    refine va_tlen S.1 S.2.1 hE.2.2.2 va_S.rf (v := nI (lenS.getD i 0)) rfl dJ0_length_8abf5_4 ?_
    refine lv_aload_n S.1 S.2.1 dJ0_length_8abf5_5 rfl (lv_at hl 0 rfl) ?_
    refine jV (As := []) hi S hT (jc_coder hi) jw_coder jl_RJ0_335 ⟨by decide, by decide, show _ = some 0 from by decide⟩ rfl (by decide) (by decide) (by decide) hl.1 (Nat.le_of_ble_eq_true rfl) dJ0_length_8abf5_6 (Nat.le_refl _) (Nat.le_refl _) rfl ?_
    refine lv_ishr S.1 S.2.1 dJ0_length_8abf5_9 ?_
    have e0 : nI (lenS.getD i 0) >>> ((0 : Int32) &&& 31) = nI (lenS.getD i 0) := by
      have : ∀ j : Nat, j < 6 → nI (lenS.getD j 0) >>> ((0 : Int32) &&& 31) = nI (lenS.getD j 0) := by decide +kernel
      exact this i hi
    rw [e0]
    exact W.iret S.1 S.2.1 hr (fun t ht _ => ⟨rfl, ht⟩) (fun _ h => nomatch h) dJ0_length_8abf5_10
theorem jc_pcheck {x y : Int32} {v : Value} (hv : v.category = 1) (h0 : ¬ x < 0) (h1 : x < y) : JMet l yJ3_checkIndex_8e157 cJ3_checkIndex_8e157 3 (some .int) 0 [.int x, .int y, v] (some (.int x)) aS sz :=
  j_met (by decide) (by unfold lg_sl; simp only [List.flatMap_cons, List.flatMap_nil, hv]; exact Nat.le_refl 3) fun p e s m below meth c ls S hsz hT hr hlk hl => by
    have hl0 : lv_has ls 3 [(0, .int x), (1, .int y)] := ⟨hl.1, hl.2.1, fun q hq => hl.2.2 q (by
      rcases List.mem_cons.mp hq with e | e
      · rw [e]; exact List.mem_cons_self
      · rcases List.mem_cons.mp e with e | e
        · rw [e]; exact List.mem_cons_of_mem _ List.mem_cons_self
        · cases e)⟩
    refine lv_iload_n S.1 S.2.1 dJ3_checkIndex_8e157_0 rfl (lv_at hl0 0 rfl) ?_
    refine lv_if_lt S.1 S.2.1 dJ3_checkIndex_8e157_1 (tgt := 9) (by decide) (fun h => absurd h h0) (fun _ => ?_)
    refine lv_iload_n S.1 S.2.1 dJ3_checkIndex_8e157_4 rfl (lv_at hl0 0 rfl) ?_
    refine lv_iload_n S.1 S.2.1 dJ3_checkIndex_8e157_5 rfl (lv_at hl0 1 rfl) ?_
    refine lv_icmp_lt S.1 S.2.1 dJ3_checkIndex_8e157_6 (tgt := 16) (by decide) (fun _ => ?_) (fun h => absurd h1 h)
    refine lv_iload_n S.1 S.2.1 dJ3_checkIndex_8e157_16 rfl (lv_at hl0 0 rfl) ?_
    exact W.iret S.1 S.2.1 hr (fun t ht _ => ⟨rfl, ht⟩) (fun _ h => nomatch h) dJ3_checkIndex_8e157_17
theorem jc_checkIndex {x y : Int32} (h0 : ¬ x < 0) (h1 : x < y) : JMet l yJ0_checkIndex_df160 cJ0_checkIndex_df160 2 none 1 [.int x, .int y] none aS sz :=
  j_met (by decide) (by simp [lg_sl, Value.category]) fun p e s m below meth c ls S hsz hT hr hlk hl => by
    refine lv_iload_n S.1 S.2.1 dJ0_checkIndex_df160_0 rfl (lv_at hl 0 rfl) ?_
    refine lv_iload_n S.1 S.2.1 dJ0_checkIndex_df160_1 rfl (lv_at hl 1 rfl) ?_
    have go : ∀ v : Value, v.category = 1 → va_Z RJ3 "SIOOBE_FORMATTER" "Ljava/util/function/BiFunction;" v (fun q => s.heap.size ≤ q) s s.heap → W p l e { frames := 1, cells := 0, slots := 0, locals := 60 * 1 } s m #[Value.int x, Value.int y] below meth c s.heap [] 0 0 (MQ below (fun _ st o t => o = .returned none ∧ t.heap = st.heap) #[Value.int x, Value.int y] s 0 0 (fun _ => False)) (F0 m 2 ls [.int y, .int x]) := by
      intro v hv hZ
      refine va_gets S.1 S.2.1 hZ va_S.rf S.2.2.2.1 (S.2.2.2.2 _ (gw_in jf_sio rfl)) (fun _ h => h) dJ0_checkIndex_df160_2 ?_
      refine jS (As := [.int x, .int y, v]) S hT (jc_pcheck hv h0 h1) jw_pcheckIndex jl_RJ0_1059 ⟨by decide, by decide, show _ = some 3 from by decide⟩ (by decide) (by decide) (by decide) hl.1 (Nat.le_of_ble_eq_true rfl) dJ0_checkIndex_df160_5 (Nat.le_refl _) (Nat.le_refl _) rfl ?_
      refine lv_pop S.1 S.2.1 dJ0_checkIndex_df160_8 rfl ?_
      exact W.vret S.1 S.2.1 hr (fun t ht _ => ⟨rfl, ht⟩) (fun _ h => nomatch h) dJ0_checkIndex_df160_9
    rcases hT.2.2.2.2 with hz | ⟨t, hz⟩
    · exact go .null rfl hz
    · exact go (.ref t) rfl hz
theorem jb_ch : ∀ i : Nat, i < 6 → ∀ k : Nat, k < lenS.getD i 0 → (((bytS.getD i []).getD k 0 &&& 255).toUInt32 % 65536).toInt32 = nI ((sCh i).getD k 0) ∧ narrow .char (.int (nI ((sCh i).getD k 0))) = .int (nI ((sCh i).getD k 0)) ∧ k < 100 := by decide +kernel
theorem jb_len : ∀ i : Nat, i < 6 → lenS.getD i 0 < 100 ∧ lenS.getD i 0 = (sCh i).length := by decide +kernel
theorem jc_l1charAt {i k : Nat} (hi : i < 6) (hk : k < lenS.getD i 0) : JMet l yJ1_charAt_3b067 cJ1_charAt_3b067 2 (some .char) 2 [.ref (aS (SB + 20 + i)), .int (nI k)] (some (.int (nI ((sCh i).getD k 0)))) aS sz :=
  j_met (by decide) (Nat.le_refl 2) fun p e s m below meth c ls S hsz hT hr hlk hl => by
    have hE := hT.1.1.1 i hi
    obtain ⟨b1, b2, b3⟩ := jb_ch i hi k hk
    obtain ⟨c1, -⟩ := jb_len i hi
    refine lv_iload_n S.1 S.2.1 dJ1_charAt_3b067_0 rfl (lv_at hl 1 rfl) ?_
    refine lv_aload_n S.1 S.2.1 dJ1_charAt_3b067_1 rfl (lv_at hl 0 rfl) ?_
    refine va_tlen S.1 S.2.1 hE.2.2.2 va_S.rf (v := nI (lenS.getD i 0)) rfl dJ1_charAt_3b067_2 ?_
    refine jS (As := [.int (nI k), .int (nI (lenS.getD i 0))]) S hT (jc_checkIndex (nI_pos (by omega)) ((nI_ltI (by omega) (by omega)).mpr hk)) jw_checkIndex jl_RJ1_9 ⟨by decide, by decide, show _ = some 2 from by decide⟩ (by decide) (by decide) (by decide) hl.1 (Nat.le_of_ble_eq_true rfl) dJ1_charAt_3b067_3 (Nat.le_refl _) (Nat.le_refl _) rfl ?_
    refine lv_aload_n S.1 S.2.1 dJ1_charAt_3b067_6 rfl (lv_at hl 0 rfl) ?_
    refine lv_iload_n S.1 S.2.1 dJ1_charAt_3b067_7 rfl (lv_at hl 1 rfl) ?_
    refine va_tb S.1 S.2.1 hE.2.2.2 va_S.rf (i := nI k) (fun q => q.elim (nI_pos (by omega)) (fun z => by rw [nI_clamp (by omega)] at z; omega)) (v := .int ((bytS.getD i []).getD k 0)) (by rw [nI_clamp (by omega)]) dJ1_charAt_3b067_8 ?_
    refine lv_sipush S.1 S.2.1 (v := 255) dJ1_charAt_3b067_9 (by decide) ?_
    refine lv_iand S.1 S.2.1 dJ1_charAt_3b067_12 ?_
    refine lv_i2c S.1 S.2.1 dJ1_charAt_3b067_13 b1 ?_
    exact W.zret S.1 S.2.1 hr b2 (fun t ht _ => ⟨rfl, ht⟩) (fun _ h => nomatch h) dJ1_charAt_3b067_14
theorem jc_charAt {i k : Nat} (hi : i < 6) (hk : k < lenS.getD i 0) : JMet l yJ0_charAt_5068e cJ0_charAt_5068e 2 (some .char) 3 [.ref (aS (SB + i)), .int (nI k)] (some (.int (nI ((sCh i).getD k 0)))) aS sz :=
  j_met (by decide) (Nat.le_refl 2) fun p e s m below meth c ls S hsz hT hr hlk hl => by
    have hE := hT.1.1.1 i hi
    obtain ⟨-, b2, -⟩ := jb_ch i hi k hk
    refine lv_aload_n S.1 S.2.1 dJ0_charAt_5068e_0 rfl (lv_at hl 0 rfl) ?_
    refine jV (As := []) hi S hT (jc_isLatin1 hi) jw_isLatin1 jl_RJ0_492 ⟨by decide, by decide, show _ = some 0 from by decide⟩ rfl (by decide) (by decide) (by decide) hl.1 (Nat.le_of_ble_eq_true rfl) dJ0_charAt_5068e_1 (Nat.le_refl _) (Nat.le_refl _) rfl ?_
    refine lv_if_eq S.1 S.2.1 dJ0_charAt_5068e_4 (tgt := 16) (by decide) (fun h => absurd h (by decide)) (fun _ => ?_)
    refine lv_aload_n S.1 S.2.1 dJ0_charAt_5068e_7 rfl (lv_at hl 0 rfl) ?_
    refine vk_getf S.1 S.2.1 hE.2.2.1 va_S.rf S.2.2.2.1 (S.2.2.2.2 _ (gw_in jf_value rfl)) (fun _ h => h) dJ0_charAt_5068e_8 ?_
    refine lv_iload_n S.1 S.2.1 dJ0_charAt_5068e_11 rfl (lv_at hl 1 rfl) ?_
    refine jS (As := [.ref (aS (SB + 20 + i)), .int (nI k)]) S hT (jc_l1charAt hi hk) jw_l1charAt jl_RJ0_495 ⟨by decide, by decide, show _ = some 2 from by decide⟩ (by decide) (by decide) (by decide) hl.1 (Nat.le_of_ble_eq_true rfl) dJ0_charAt_5068e_12 (Nat.le_refl _) (Nat.le_refl _) rfl ?_
    exact W.zret S.1 S.2.1 hr b2 (fun t ht _ => ⟨rfl, ht⟩) (fun _ h => nomatch h) dJ0_charAt_5068e_15
theorem jc_canEncode {x : Int32} : JMet l yJ1_canEncode_9a6ad cJ1_canEncode_9a6ad 1 (some .boolean) 0 [.int x] (some (.int (if x < 0 ∨ 255 < x then 0 else 1))) aS sz :=
  j_met (by decide) (Nat.le_refl 1) fun p e s m below meth c ls S hsz hT hr hlk hl => by
    have no : (x < 0 ∨ 255 < x) → W p l e { frames := 0, cells := 0, slots := 0, locals := 60 * 0 } s m #[Value.int x] below meth c s.heap [] 0 0 (MQ below (fun _ st o t => o = .returned (some (.int (if x < 0 ∨ 255 < x then 0 else 1))) ∧ t.heap = st.heap) #[Value.int x] s 0 0 (fun _ => False)) (F0 m 15 ls []) := fun q => by
      rw [if_pos q]
      refine lv_iconst S.1 S.2.1 (v := 0) dJ1_canEncode_9a6ad_15 (by decide) ?_
      exact W.zret S.1 S.2.1 hr (by decide) (fun t ht _ => ⟨rfl, ht⟩) (fun _ h => nomatch h) dJ1_canEncode_9a6ad_16
    refine lv_iload_n S.1 S.2.1 dJ1_canEncode_9a6ad_0 rfl (lv_at hl 0 rfl) ?_
    refine lv_if_lt S.1 S.2.1 dJ1_canEncode_9a6ad_1 (tgt := 15) (by decide) (fun h => no (Or.inl h)) (fun h1 => ?_)
    refine lv_iload_n S.1 S.2.1 dJ1_canEncode_9a6ad_4 rfl (lv_at hl 0 rfl) ?_
    refine lv_sipush S.1 S.2.1 (v := 255) dJ1_canEncode_9a6ad_5 (by decide) ?_
    refine lv_icmp_gt S.1 S.2.1 dJ1_canEncode_9a6ad_8 (tgt := 15) (by decide) (fun h => no (Or.inr h)) (fun h2 => ?_)
    rw [if_neg (fun q => q.elim h1 h2)]
    refine lv_iconst S.1 S.2.1 (v := 1) dJ1_canEncode_9a6ad_11 (by decide) ?_
    refine lv_goto S.1 S.2.1 dJ1_canEncode_9a6ad_12 (tgt := 16) (by decide) ?_
    exact W.zret S.1 S.2.1 hr (by decide) (fun t ht _ => ⟨rfl, ht⟩) (fun _ h => nomatch h) dJ1_canEncode_9a6ad_16
def jix (c : Int32) : List Int32 → Nat → Int32
  | [], _ => -1
  | b :: t, k => if b = c then nI k else jix c t (k + 1)
theorem jc_l1ixc {i : Nat} (hi : i < 6) {x : Int32} : JMet l yJ1_indexOfChar_4cfef cJ1_indexOfChar_4cfef 6 (some .int) 0 [.ref (aS (SB + 20 + i)), .int x, .int 0, .int (nI (lenS.getD i 0))] (some (.int (jix x.toInt8.toInt32 (bytS.getD i []) 0))) aS sz :=
  j_met (by decide) (by simp [lg_sl, Value.category]) fun p e s m below meth c ls S hsz hT hr hlk hl => by
    have hE := hT.1.1.1 i hi
    obtain ⟨c1, c2⟩ := jb_len i hi
    have c3 : (bytS.getD i []).length = lenS.getD i 0 := by
      have : ∀ j : Nat, j < 6 → (bytS.getD j []).length = lenS.getD j 0 := by decide +kernel
      exact this i hi
    refine lv_iload_n S.1 S.2.1 dJ1_indexOfChar_4cfef_0 rfl (lv_at hl 1 rfl) ?_
    refine lv_i2b S.1 S.2.1 dJ1_indexOfChar_4cfef_1 rfl ?_
    refine lv_istore S.1 S.2.1 dJ1_indexOfChar_4cfef_2 hl (by decide) rfl (fun ls1 hl1 => ?_)
    refine lv_iload_n S.1 S.2.1 dJ1_indexOfChar_4cfef_4 rfl (hl1.2.2 (2, .int 0) (by simp [lv_args, Value.category])) ?_
    refine lv_istore S.1 S.2.1 dJ1_indexOfChar_4cfef_5 hl1 (by decide) rfl (fun ls2 hl2 => ?_)
    have hstart : lv_has ls2 6 [(5, .int (nI 0)), (4, .int x.toInt8.toInt32), (0, .ref (aS (SB + 20 + i))), (3, .int (nI (lenS.getD i 0)))] := ⟨hl2.1, hl2.2.1, fun q hq => hl2.2.2 q (by
      simp only [List.mem_cons, List.not_mem_nil, or_false] at hq
      rcases hq with e | e | e | e <;> (rw [e]; simp [lv_args, Value.category, nI]))⟩
    have loop : ∀ (L : List Int32) (k : Nat) (ls : Array Slot), (bytS.getD i []).drop k = L → k ≤ lenS.getD i 0 → lv_has ls 6 [(5, .int (nI k)), (4, .int x.toInt8.toInt32), (0, .ref (aS (SB + 20 + i))), (3, .int (nI (lenS.getD i 0)))] → W p l e { frames := 0, cells := 0, slots := 0, locals := 60 * 0 } s m #[Value.ref (aS (SB + 20 + i)), .int x, .int 0, .int (nI (lenS.getD i 0))] below meth c s.heap [] 0 0 (MQ below (fun _ st o t => o = .returned (some (.int (jix x.toInt8.toInt32 L k))) ∧ t.heap = st.heap) #[Value.ref (aS (SB + 20 + i)), .int x, .int 0, .int (nI (lenS.getD i 0))] s 0 0 (fun _ => False)) (F0 m 7 ls []) := by
      intro L
      induction L with
      | nil =>
        intro k ls hd hk hl
        have hke : lenS.getD i 0 ≤ k := by
          have := congrArg List.length hd
          rw [List.length_drop, List.length_nil, c3] at this; omega
        refine lv_iload S.1 S.2.1 dJ1_indexOfChar_4cfef_7 (lv_at hl 0 rfl) ?_
        refine lv_iload_n S.1 S.2.1 dJ1_indexOfChar_4cfef_9 rfl (lv_at hl 3 rfl) ?_
        refine lv_icmp_ge S.1 S.2.1 dJ1_indexOfChar_4cfef_10 (tgt := 31) (by decide) (fun _ => ?_) (fun h => absurd ((nI_leI (by omega) (by omega)).mpr hke) h)
        refine lv_iconst S.1 S.2.1 (v := -1) dJ1_indexOfChar_4cfef_31 (by decide) ?_
        exact W.iret S.1 S.2.1 hr (fun t ht _ => ⟨rfl, ht⟩) (fun _ h => nomatch h) dJ1_indexOfChar_4cfef_32
      | cons b t ih =>
        intro k ls hd hk hl
        have hlt : k < lenS.getD i 0 := by
          have := congrArg List.length hd
          rw [List.length_drop, List.length_cons, c3] at this; omega
        have hb : (bytS.getD i []).getD k 0 = b := by
          have h0 : ((bytS.getD i []).drop k)[0]? = some b := by rw [hd]; rfl
          rw [List.getElem?_drop, Nat.add_zero] at h0
          rw [List.getD_eq_getElem?_getD, h0]; rfl
        have hd' : (bytS.getD i []).drop (k + 1) = t := by
          rw [← List.drop_drop, hd]; rfl
        refine lv_iload S.1 S.2.1 dJ1_indexOfChar_4cfef_7 (lv_at hl 0 rfl) ?_
        refine lv_iload_n S.1 S.2.1 dJ1_indexOfChar_4cfef_9 rfl (lv_at hl 3 rfl) ?_
        refine lv_icmp_ge S.1 S.2.1 dJ1_indexOfChar_4cfef_10 (tgt := 31) (by decide) (fun h => absurd ((nI_leI (by omega) (by omega)).mp h) (by omega)) (fun _ => ?_)
        refine lv_aload_n S.1 S.2.1 dJ1_indexOfChar_4cfef_13 rfl (lv_at hl 2 rfl) ?_
        refine lv_iload S.1 S.2.1 dJ1_indexOfChar_4cfef_14 (lv_at hl 0 rfl) ?_
        refine va_tb S.1 S.2.1 hE.2.2.2 va_S.rf (i := nI k) (fun q => q.elim (nI_pos (by omega)) (fun z => by rw [nI_clamp (by omega)] at z; omega)) (v := .int b) (by rw [nI_clamp (by omega), hb]) dJ1_indexOfChar_4cfef_16 ?_
        refine lv_iload S.1 S.2.1 dJ1_indexOfChar_4cfef_17 (lv_at hl 1 rfl) ?_
        refine lv_icmp_ne S.1 S.2.1 dJ1_indexOfChar_4cfef_19 (tgt := 25) (by decide) (fun h => ?_) (fun h => ?_)
        · have e1 : jix x.toInt8.toInt32 (b :: t) k = jix x.toInt8.toInt32 t (k + 1) := if_neg h
          rw [e1]
          refine lv_iinc S.1 S.2.1 (k := 0) dJ1_indexOfChar_4cfef_25 hl rfl (v := nI (k + 1)) (by show nI k + Int32.ofInt 1 = _; rw [show Int32.ofInt 1 = (1 : Int32) by decide]; exact nI_1 k) (by decide) rfl (fun ls' hl' => ?_)
          refine lv_goto S.1 S.2.1 dJ1_indexOfChar_4cfef_28 (tgt := 7) (by decide) ?_
          exact ih (k + 1) ls' hd' (by omega) hl'
        · have hbe : b = x.toInt8.toInt32 := h
          have e1 : jix x.toInt8.toInt32 (b :: t) k = nI k := if_pos hbe
          rw [e1]
          refine lv_iload S.1 S.2.1 dJ1_indexOfChar_4cfef_22 (lv_at hl 0 rfl) ?_
          exact W.iret S.1 S.2.1 hr (fun t ht _ => ⟨rfl, ht⟩) (fun _ h => nomatch h) dJ1_indexOfChar_4cfef_24
    exact loop _ 0 ls2 rfl (Nat.zero_le _) hstart
theorem jc_l1ix {i : Nat} (hi : i < 6) {x : Int32} : JMet l yJ1_indexOf_4cfef cJ1_indexOf_4cfef 4 (some .int) 1 [.ref (aS (SB + 20 + i)), .int x, .int 0, .int (nI (lenS.getD i 0))] (some (.int (if x < 0 ∨ 255 < x then -1 else jix x.toInt8.toInt32 (bytS.getD i []) 0))) aS sz :=
  j_met (by decide) (by simp [lg_sl, Value.category]) fun p e s m below meth c ls S hsz hT hr hlk hl => by
    have hE := hT.1.1.1 i hi
    have c4 : 0 < lenS.getD i 0 ∧ lenS.getD i 0 < 100 := by
      have : ∀ j : Nat, j < 6 → 0 < lenS.getD j 0 ∧ lenS.getD j 0 < 100 := by decide +kernel
      exact this i hi
    refine lv_iload_n S.1 S.2.1 dJ1_indexOf_4cfef_0 rfl (lv_at hl 1 rfl) ?_
    refine jS (As := [.int x]) S hT jc_canEncode jw_canEncode jl_RJ1_88 ⟨by decide, by decide, show _ = some 1 from by decide⟩ (by decide) (by decide) (by decide) hl.1 (Nat.le_of_ble_eq_true rfl) dJ1_indexOf_4cfef_1 (Nat.le_refl _) (Nat.le_refl _) rfl ?_
    refine lv_if_ne S.1 S.2.1 dJ1_indexOf_4cfef_4 (tgt := 9) (by decide) (fun h => ?_) (fun h => ?_)
    · have hx : ¬ (x < 0 ∨ 255 < x) := fun q => by rw [if_pos q] at h; exact h rfl
      rw [if_neg hx]
      refine lv_iload_n S.1 S.2.1 dJ1_indexOf_4cfef_9 rfl (lv_at hl 2 rfl) ?_
      refine lv_iconst S.1 S.2.1 (v := 0) dJ1_indexOf_4cfef_10 (by decide) ?_
      refine va_mmax S.1 S.2.1 (S.2.2.1.trans hl.1.symm) S.2.2.2.1 (S.2.2.2.2 _ (gw_in jm_max.1 rfl)) (S.2.2.2.2 _ (gw_in jm_max.2.1 rfl)) (S.2.2.2.2 _ (gw_in jm_max.2.2.1 rfl)) (S.2.2.2.2 _ (gw_in jm_max.2.2.2 rfl)) (by decide) (by decide) (Nat.le_refl _) (Nat.le_refl _) dJ1_indexOf_4cfef_11 ?_
      rw [if_neg (by decide)]
      refine lv_istore_n S.1 S.2.1 dJ1_indexOf_4cfef_14 rfl hl (by decide) rfl (fun ls1 hl1 => ?_)
      have hm1 : lv_has ls1 4 [(2, .int 0), (0, .ref (aS (SB + 20 + i))), (1, .int x), (3, .int (nI (lenS.getD i 0)))] := ⟨hl1.1, hl1.2.1, fun q hq => hl1.2.2 q (by
        simp only [List.mem_cons, List.not_mem_nil, or_false] at hq
        rcases hq with e | e | e | e <;> (rw [e]; simp [lv_args, Value.category]))⟩
      refine lv_iload_n S.1 S.2.1 dJ1_indexOf_4cfef_15 rfl (lv_at hm1 3 rfl) ?_
      refine lv_aload_n S.1 S.2.1 dJ1_indexOf_4cfef_16 rfl (lv_at hm1 1 rfl) ?_
      refine va_tlen S.1 S.2.1 hE.2.2.2 va_S.rf (v := nI (lenS.getD i 0)) rfl dJ1_indexOf_4cfef_17 ?_
      refine va_mmin S.1 S.2.1 (S.2.2.1.trans hm1.1.symm) S.2.2.2.1 (S.2.2.2.2 _ (gw_in jm_min.1 rfl)) (S.2.2.2.2 _ (gw_in jm_min.2.1 rfl)) (S.2.2.2.2 _ (gw_in jm_min.2.2.1 rfl)) (S.2.2.2.2 _ (gw_in jm_min.2.2.2 rfl)) (by decide) (by decide) (Nat.le_refl _) (Nat.le_refl _) dJ1_indexOf_4cfef_18 ?_
      rw [if_neg (fun z => by have := (nI_ltI (by omega) (by omega)).mp z; omega)]
      refine lv_istore_n S.1 S.2.1 dJ1_indexOf_4cfef_21 rfl hm1 (by decide) rfl (fun ls2 hl2 => ?_)
      have hm2 : lv_has ls2 4 [(3, .int (nI (lenS.getD i 0))), (2, .int 0), (0, .ref (aS (SB + 20 + i))), (1, .int x)] := ⟨hl2.1, hl2.2.1, fun q hq => hl2.2.2 q (by
        simp only [List.mem_cons, List.not_mem_nil, or_false] at hq
        rcases hq with e | e | e | e
        · rw [e]; exact List.mem_cons_self
        · rw [e]; exact List.mem_cons_of_mem _ (List.mem_filter.mpr ⟨List.mem_cons_self, rfl⟩)
        · rw [e]; exact List.mem_cons_of_mem _ (List.mem_filter.mpr ⟨List.mem_cons_of_mem _ List.mem_cons_self, rfl⟩)
        · rw [e]; exact List.mem_cons_of_mem _ (List.mem_filter.mpr ⟨List.mem_cons_of_mem _ (List.mem_cons_of_mem _ List.mem_cons_self), rfl⟩))⟩
      refine lv_iload_n S.1 S.2.1 dJ1_indexOf_4cfef_22 rfl (lv_at hm2 1 rfl) ?_
      refine lv_iload_n S.1 S.2.1 dJ1_indexOf_4cfef_23 rfl (lv_at hm2 0 rfl) ?_
      refine lv_icmp_lt S.1 S.2.1 dJ1_indexOf_4cfef_24 (tgt := 29) (by decide) (fun _ => ?_) (fun h => absurd (by rw [← nI_0]; exact (nI_ltI (by omega) (by omega)).mpr c4.1) h)
      refine lv_aload_n S.1 S.2.1 dJ1_indexOf_4cfef_29 rfl (lv_at hm2 2 rfl) ?_
      refine lv_iload_n S.1 S.2.1 dJ1_indexOf_4cfef_30 rfl (lv_at hm2 3 rfl) ?_
      refine lv_iload_n S.1 S.2.1 dJ1_indexOf_4cfef_31 rfl (lv_at hm2 1 rfl) ?_
      refine lv_iload_n S.1 S.2.1 dJ1_indexOf_4cfef_32 rfl (lv_at hm2 0 rfl) ?_
      refine jS (As := [.ref (aS (SB + 20 + i)), .int x, .int 0, .int (nI (lenS.getD i 0))]) S hT (jc_l1ixc hi) jw_l1indexOfChar jl_RJ1_95 ⟨by decide, by decide, show _ = some 4 from by decide⟩ (by decide) (by decide) (by decide) hm2.1 (Nat.le_of_ble_eq_true rfl) dJ1_indexOf_4cfef_33 (Nat.le_refl _) (Nat.le_refl _) rfl ?_
      exact W.iret S.1 S.2.1 hr (fun t ht _ => ⟨rfl, ht⟩) (fun _ h => nomatch h) dJ1_indexOf_4cfef_36
    · have hx : x < 0 ∨ 255 < x := Classical.byContradiction fun q => by rw [if_neg q] at h; exact absurd h (by decide)
      rw [if_pos hx]
      refine lv_iconst S.1 S.2.1 (v := -1) dJ1_indexOf_4cfef_7 (by decide) ?_
      exact W.iret S.1 S.2.1 hr (fun t ht _ => ⟨rfl, ht⟩) (fun _ h => nomatch h) dJ1_indexOf_4cfef_8
theorem jc_ix2 {i : Nat} (hi : i < 6) {x : Int32} : JMet l yJ0_indexOf_7cf53 cJ0_indexOf_7cf53 3 (some .int) 2 [.ref (aS (SB + i)), .int x, .int 0] (some (.int (if x < 0 ∨ 255 < x then -1 else jix x.toInt8.toInt32 (bytS.getD i []) 0))) aS sz :=
  j_met (by decide) (by simp [lg_sl, Value.category]) fun p e s m below meth c ls S hsz hT hr hlk hl => by
    have hE := hT.1.1.1 i hi
    refine lv_aload_n S.1 S.2.1 dJ0_indexOf_7cf53_0 rfl (lv_at hl 0 rfl) ?_
    refine jV (As := []) hi S hT (jc_isLatin1 hi) jw_isLatin1 jl_RJ0_492 ⟨by decide, by decide, show _ = some 0 from by decide⟩ rfl (by decide) (by decide) (by decide) hl.1 (Nat.le_of_ble_eq_true rfl) dJ0_indexOf_7cf53_1 (Nat.le_refl _) (Nat.le_refl _) rfl ?_
    refine lv_if_eq S.1 S.2.1 dJ0_indexOf_7cf53_4 (tgt := 23) (by decide) (fun h => absurd h (by decide)) (fun _ => ?_)
    refine lv_aload_n S.1 S.2.1 dJ0_indexOf_7cf53_7 rfl (lv_at hl 0 rfl) ?_
    refine vk_getf S.1 S.2.1 hE.2.2.1 va_S.rf S.2.2.2.1 (S.2.2.2.2 _ (gw_in jf_value rfl)) (fun _ h => h) dJ0_indexOf_7cf53_8 ?_
    refine lv_iload_n S.1 S.2.1 dJ0_indexOf_7cf53_11 rfl (lv_at hl 1 rfl) ?_
    refine lv_iload_n S.1 S.2.1 dJ0_indexOf_7cf53_12 rfl (lv_at hl 2 rfl) ?_
    refine lv_aload_n S.1 S.2.1 dJ0_indexOf_7cf53_13 rfl (lv_at hl 0 rfl) ?_
    refine jV (As := []) hi S hT (jc_length hi) jw_length jl_RJ0_505 ⟨by decide, by decide, show _ = some 0 from by decide⟩ rfl (by decide) (by decide) (by decide) hl.1 (Nat.le_of_ble_eq_true rfl) dJ0_indexOf_7cf53_14 (Nat.le_refl _) (Nat.le_refl _) rfl ?_
    refine jS (As := [.ref (aS (SB + 20 + i)), .int x, .int 0, .int (nI (lenS.getD i 0))]) S hT (jc_l1ix hi) jw_l1indexOf jl_RJ0_637 ⟨by decide, by decide, show _ = some 4 from by decide⟩ (by decide) (by decide) (by decide) hl.1 (Nat.le_of_ble_eq_true rfl) dJ0_indexOf_7cf53_17 (Nat.le_refl _) (Nat.le_refl _) rfl ?_
    refine lv_goto S.1 S.2.1 dJ0_indexOf_7cf53_20 (tgt := 36) (by decide) ?_
    exact W.iret S.1 S.2.1 hr (fun t ht _ => ⟨rfl, ht⟩) (fun _ h => nomatch h) dJ0_indexOf_7cf53_36
theorem jc_ix1 {i : Nat} (hi : i < 6) {x : Int32} : JMet l yJ0_indexOf_0f7a4 cJ0_indexOf_0f7a4 2 (some .int) 3 [.ref (aS (SB + i)), .int x] (some (.int (if x < 0 ∨ 255 < x then -1 else jix x.toInt8.toInt32 (bytS.getD i []) 0))) aS sz :=
  j_met (by decide) (Nat.le_refl 2) fun p e s m below meth c ls S hsz hT hr hlk hl => by
    refine lv_aload_n S.1 S.2.1 dJ0_indexOf_0f7a4_0 rfl (lv_at hl 0 rfl) ?_
    refine lv_iload_n S.1 S.2.1 dJ0_indexOf_0f7a4_1 rfl (lv_at hl 1 rfl) ?_
    refine lv_iconst S.1 S.2.1 (v := 0) dJ0_indexOf_0f7a4_2 (by decide) ?_
    refine jV (As := [.int x, .int 0]) hi S hT (jc_ix2 hi) jw_indexOf2 jl_RJ0_633 ⟨by decide, by decide, show _ = some 2 from by decide⟩ rfl (by decide) (by decide) (by decide) hl.1 (Nat.le_of_ble_eq_true rfl) dJ0_indexOf_0f7a4_3 (Nat.le_refl _) (Nat.le_refl _) rfl ?_
    exact W.iret S.1 S.2.1 hr (fun t ht _ => ⟨rfl, ht⟩) (fun _ h => nomatch h) dJ0_indexOf_0f7a4_6
theorem jb_ix : ∀ n : Nat, n < 256 → jix (nI n).toInt8.toInt32 (bytS.getD 4 []) 0 = if n ∈ sCh 4 then nI ((sCh 4).idxOf n) else -1 := by decide +kernel
theorem jb_iy : ∀ b ∈ sCh 4, b < 256 := by decide +kernel
theorem jb_sg {x : Int32} (h0 : 0 ≤ x.toInt) (h1 : x.toInt < 65536) : (if x < 0 ∨ 255 < x then (-1 : Int32) else jix x.toInt8.toInt32 (bytS.getD 4 []) 0) = if x.toNatClampNeg ∈ sCh 4 then nI ((sCh 4).idxOf x.toNatClampNeg) else -1 := by
  have e1 : nI x.toNatClampNeg = x := by
    obtain ⟨j, hj, rfl⟩ := nI_of (i32_nn h0)
    rw [nI_clamp hj]
  have e2 : (x.toNatClampNeg : Int) = x.toInt := i32_cl h0
  by_cases h : x.toNatClampNeg < 256
  · rw [← jb_ix _ h, e1, if_neg (fun q => q.elim (i32_nn h0) (fun z => by have := Int32.lt_iff_toInt_lt.mp z; simp at this; omega))]
  · rw [if_pos (Or.inr (by rw [Int32.lt_iff_toInt_lt]; simp; omega)), if_neg (fun q => h (jb_iy _ q))]
end JDKM
