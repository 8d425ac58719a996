theorem vx_ofWH {l : Launch} {y : MethodName} {ws ws' : List Cond} {rm : Room} {Pc : Array Value → State → Prop} {Qc : Array Value → State → Outcome → State → Prop} {XC : String → State → State → Prop} {mc ms : Nat} {free : Addr → Prop} {cc : ByteArray} {maxL : Nat} {ret : Option FieldType} {hh : List (Nat × Nat × Nat × Nat)}
    (hy : plainName y.cls = true) (hw : ws = Cond.codeWith y cc maxL ret hh :: ws')
    (body : ∀ p e s m args below meth c s₁, BodyLoose p l y (headSpec ws rm) cc maxL ret e s m args below meth c s₁ → c.maxLocals = maxL → Pc args s →
      W p l e (headSpec ws rm).room s m args below meth c s.heap [] 0 0 (vx_MQ below Qc XC args s mc ms free) (entryFrame m args maxL)) : vx_Met l y ws rm Pc Qc XC mc ms free := by
  refine MetFree.of_bodyS (code := cc) (maxLocals := maxL) (ret := ret) hy ?_ ?_
  · intro args s m h hn
    obtain ⟨m9, meth, c, hn9, h1, h2, h3, h4, -, h5, h6, -⟩ := Cond.codeWith_spec (atoms_spec (ws := ws) h _ (by rw [hw]; exact List.mem_cons_self))
    cases hn.symm.trans hn9
    exact ⟨meth, c, h1, h2, h3, h4, h5, h6⟩
  · intro p e s m args below meth c s₁ B hml hP _
    have hh0 : s₁.heap = s.heap := by rw [B.state]; rfl
    obtain ⟨t, a1, o, b1, b2, b3⟩ := body p e s m args below meth c s₁ B hml hP s₁ hh0 (Stand.of_body B)
    exact ⟨t, o, a1, b1, b2, b3⟩
theorem w_ise : Cond.castable RJxb5711 RJxb5711 ∈ lw_tbl ∧ Cond.classLink RX13 30 RJxb5711 ∈ lw_tbl := ⟨(tin_6 _ (List.mem_of_getElem? (i := 88) (by decide +kernel))), (tin_6 _ (List.mem_of_getElem? (i := 86) (by decide +kernel)))⟩
section VXO
variable {p : Program} {l : Launch} {e : Env} {R : Room} {s : State} {m : MethodId} {args : Array Value} {below : List Frame} {meth : Method} {c : Code} {H : Heap} {locs : List Loc} {cells slots : Nat} {Q : State → Prop}
theorem vx_noX {Qc : Array Value → State → Outcome → State → Prop} {a : Array Value} {mc ms : Nat} {free : Addr → Prop} {g : JFrame} (k : W p l e R s m args below meth c H locs cells slots (vx_MQ below Qc (fun _ _ _ => False) a s mc ms free) g) : W p l e R s m args below meth c H locs cells slots (MQ below Qc a s mc ms free) g := by
  intro T hT X
  obtain ⟨t, a1, o, b1, b2, b3⟩ := k T hT X
  rcases b3 with ⟨b3, b4⟩ | ⟨q, -, E, ce, L, hF, -⟩
  · exact ⟨t, a1, o, b1, b2, b3, b4⟩
  · exact hF.elim
/-- athrow: what is thrown leaves the method -/
theorem vx_athrow {Qc : Array Value → State → Outcome → State → Prop} {XC : String → State → State → Prop} {mc ms : Nat} {free : Addr → Prop} {pc : Nat} {ls : Array Slot} {cc : ByteArray} {E : String} {ce : Cell} {q : Nat} {rest : List Value} (hexec : p.tables.exec = Jvm.exec) (hb : c.code = cc) (hlocks : meth.locks = false) (hd : decode cc pc = .ok (.athrow, 1))
    (hout : ∀ x ∈ c.exceptionTable.toList, False) (hcell : H[q]? = some ce) (hv : ce.vm = .none) (hcl : s.vm.findClass E = some ce.cls) (hx : ∀ t : State, t.heap = H → s.vm.Alike t.vm → XC E s t) (hf : ∀ z ∈ locs, free z.base) (hc : cells ≤ mc) (hs : slots ≤ ms) :
    W p l e R s m args below meth c H locs cells slots (vx_MQ below Qc XC args s mc ms free) (F0 m pc ls (.ref q :: rest)) := by
  intro T hT X
  obtain ⟨hwalk, hrun, hended, hWU, hsame⟩ := X.athrowLeaves hexec (g := F0 m pc ls (.ref q :: rest)) rfl rfl rfl (fun x hx => (hout x hx).elim) (a := q) (rest := rest) rfl (by rw [hb]; exact hd)
  have hcell9 : (T.setFrames (.throwing q :: below)).heap[q]? = some ce := by
    show T.heap[q]? = some ce
    rw [hT]; exact hcell
  exact ⟨_, hwalk, .threw q, hrun, hended, Or.inr ⟨q, rfl, E, ce, locs, hx _ hT hWU.alike, hcell9, hv, hcl, hWU, hsame.mono hc hs, hf⟩⟩
/-- a call that throws -/
theorem callX {mc ms : Nat} {pc : Nat} {ls : Array Slot} {st0 rest : List Value} {XC : String → State → State → Prop} {free : Addr → Prop} {A0 A1 : Nat → Prop} {H0 : Heap}
    (hr : vx_Run p l e R s m args below meth c H locs cells slots mc ms (F0 m pc ls st0) rest (fun _ _ _ => False) XC free) (hS : va_S A0 H0 H locs) (hA : ∀ q, q < H.size → A1 q → A0 q) (hf : ∀ q, free q → A0 q) (hF : ∀ (st₀ t : State) (E : String), XC E st₀ t → va_F A1 st₀ t)
    (kk : ∀ (q : Addr) (st₀ t : State) (locs1 : List Loc) (E : String) (ce : Cell), st₀.heap = H → s.WarmedH t.vm → XC E st₀ t → t.heap[q]? = some ce → ce.vm = .none → s.vm.findClass E = some ce.cls → va_S A0 H0 t.heap locs1 → vx_W p l e R s m args below meth c t.heap locs1 (cells + mc) (slots + ms) Q (F0 m pc ls rest) q) : W p l e R s m args below meth c H locs cells slots Q (F0 m pc ls st0) := by
  intro T hT X
  rcases hr T hT X with ⟨v, st₀, t, T', L, h0, X', hL, e1, e2, hq, st⟩ | ⟨q, st₀, t, T', L, E, ce, h0, X', hL, e1, e2, hq, hce, hcv, hcl, st⟩
  · exact hq.elim
  · obtain ⟨hz, hk⟩ := hF _ _ _ hq
    rw [h0] at hz hk
    obtain ⟨t2, a1, b1⟩ := kk q st₀ t (locs ++ L) E ce h0 (by rw [← e2]; exact X'.warmed) hq hce hcv hcl
      ⟨Nat.le_trans hS.1 hz, fun q h1 h2 => by rw [hk q (Nat.lt_of_lt_of_le h1 hS.1) (fun z => h2 (hA q (Nat.lt_of_lt_of_le h1 hS.1) z))]; exact hS.2.1 q h1 h2, fun q hq => by
        rcases List.mem_append.mp hq with h | h
        · exact hS.2.2 q h
        · exact hf _ (hL q h)⟩ T' e1 X'
    exact ⟨t2, st.trans a1, b1⟩
end VXO
theorem vx_ofWF {l : Launch} {y : MethodName} {ws ws' : List Cond} {rm : Room} {Pc : Array Value → State → Prop} {Qc : Array Value → State → Outcome → State → Prop} {XC : String → State → State → Prop} {mc ms : Nat} {free : Addr → Prop} {cc : ByteArray} {maxL : Nat} {ret : Option FieldType}
    (hy : plainFor y = true) (hw : ws = Cond.code y cc maxL ret :: ws')
    (body : ∀ p e s m args below meth c s₁, BodyLoose p l y (headSpec ws rm) cc maxL ret e s m args below meth c s₁ → c.maxLocals = maxL → Pc args s →
      W p l e (headSpec ws rm).room s m args below meth c s.heap [] 0 0 (vx_MQ below Qc XC args s mc ms free) (entryFrame m args maxL)) : vx_Met l y ws rm Pc Qc XC mc ms free := by
  refine MetFree.of_bodySF (code := cc) (maxLocals := maxL) (ret := ret) hy ?_ ?_
  · intro args s m h hn
    obtain ⟨meth, c, h1, h2, h3, h4, h5, h6, -, -⟩ := Cond.code_spec hn (atoms_spec (ws := ws) h _ (by rw [hw]; exact List.mem_cons_self))
    exact ⟨meth, c, h1, h2, h3, h4, h5, h6⟩
  · intro p e s m args below meth c s₁ B hml hP _
    have hh0 : s₁.heap = s.heap := by rw [B.state]; rfl
    obtain ⟨t, a1, o, b1, b2, b3⟩ := body p e s m args below meth c s₁ B hml hP s₁ hh0 (Stand.of_body B)
    exact ⟨t, o, a1, b1, b2, b3⟩
/-- no table of handlers -/
theorem xt_of {p : Program} {l : Launch} {y : MethodName} {ws ws' : List Cond} {rm : Room} {cc : ByteArray} {maxL : Nat} {ret : Option FieldType} {e : Env} {s s₁ : State} {m : MethodId} {args : Array Value} {below : List Frame} {meth : Method} {c : Code} (hw : ws = Cond.code y cc maxL ret :: ws') (B : BodyLoose p l y (headSpec ws rm) cc maxL ret e s m args below meth c s₁) : ∀ x ∈ c.exceptionTable.toList, False := by
  obtain ⟨meth9, c9, h1, h2, -, -, -, -, h7, -⟩ := Cond.code_spec B.named (atoms_spec (ws := ws) B.pre _ (by rw [hw]; exact List.mem_cons_self))
  cases Option.some.inj (h1.symm.trans B.method)
  cases Option.some.inj (h2.symm.trans (Stand.of_body B).code)
  intro x hx
  rw [Array.isEmpty_iff.mp h7] at hx
  cases hx
