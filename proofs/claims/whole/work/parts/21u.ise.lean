/-! new IllegalStateException("refused"), kept and not thrown -/
def ISN : List String := ["java/lang/RuntimeException", "java/lang/Exception"]
section ISE
variable {p : Program} {l : Launch} {e : Env} {R : Room} {s : State} {m : MethodId} {args : Array Value} {below : List Frame} {meth : Method} {c : Code} {H : Heap} {locs : List Loc} {cells slots : Nat} {Q : State → Prop}
set_option maxHeartbeats 4000000 in
theorem ise_W {cc : ByteArray} {pc : Nat} {ls : Array Slot} {rest : List Value} {A : Nat → Prop} {sa : Nat} (hexec : p.tables.exec = Jvm.exec) (hb : c.code = cc) (hl : l.stackTraces = false)
    (hown : s.vm.findClass RX13 = some m.cls) (hat : ∀ w ∈ Bundle.ownAtoms RX13 34 RJxb5711 ISN, w.before args s = true) (hk : (Cond.classLink RX13 30 RJxb5711).before args s = true) (hini : (Cond.initialized RJxb5711).before args s = true) (hstr : vk_R RX13 32 "refused" sa s) (hLs : vx_L Bundle.tN "UNASSIGNED_STACK" Bundle.steD A s s.heap)
    (hS : va_S A s.heap H locs) (hA : ∀ q, s.heap.size ≤ q → A q) (hsize : ls.size = c.maxLocals)
    (d0 : decode cc pc = .ok (.new 30, 3)) (d3 : decode cc (pc + 3) = .ok (.dup, 1)) (d4 : decode cc (pc + 4) = .ok (.ldc 32, 2)) (d6 : decode cc (pc + 6) = .ok (.invokespecial 34, 3))
    (hRframes : 5 < R.frames) (hRlocals : (rest.map fun v => v.category).sum + 82 ≤ R.locals) (hRcells : cells + 1 ≤ R.cells) (hRslots : slots + 6 ≤ R.slots)
    (kk : ∀ (H' : Heap) (ce : Cell) (locs' : List Loc), H'.size = H.size + 1 → (∀ q : Nat, q < H.size → H'[q]? = H[q]?) → H'[H.size]? = some ce → ce.vm = .none → s.vm.findClass RJxb5711 = some ce.cls → va_S A s.heap H' locs' → W p l e R s m args below meth c H' locs' (cells + 1) (slots + 6) Q (F0 m (pc + 9) ls (.ref H.size :: rest))) :
    W p l e R s m args below meth c H locs cells slots Q (F0 m pc ls rest) := by
  intro T hT X
  have htr : e.platform.stackTraces = false := (show e.platform.stackTraces = l.stackTraces by rw [X.admits.platform]).trans hl
  have howns : e.platform.frameOwnsMonitors = true := by rw [X.admits.platform]
  have hfin : e.platform.finalization = false := by rw [X.admits.platform]
  have hpl : e.platform.magicAccessors = ({} : Platform).magicAccessors := by rw [X.admits.platform]
  have a' : ∀ x, x ∈ Bundle.ownAtoms RX13 34 RJxb5711 ISN → x.holds args s none s [] = true := fun x hx => hat x hx
  have hins : (Cond.instantiable RJxb5711 6).before args s = true := hat _ (by simp [Bundle.ownAtoms])
  obtain ⟨vm₁, cX, kX, hfX, hkX, -, -, X₁, st1⟩ := X.newCold hexec (own := RX13) (C := RJxb5711) (index := 30) (n := 6) hown hk hins hini (g := F0 m pc ls rest) rfl (by rw [hb]; exact d0) hRcells hRslots
  generalize hT1 : (T.setVm vm₁).pushCell { cls := cX, slots := kX.instanceTypes.map defaultValue, vm := .none } = T1 at X₁ st1
  have hcat : (Value.ref T.heap.size).category = 1 := rfl
  have hcell : T1.heap[T.heap.size]? = some (freshCell cX kX) := by rw [← hT1]; exact State.heap_pushCell_size _ _
  have hold : ∀ q : Nat, q < T.heap.size → T1.heap[q]? = T.heap[q]? := fun q hq => by rw [← hT1]; exact heap_pushCell_below (T.setVm vm₁) _ hq
  have hsz1 : T1.heap.size = T.heap.size + 1 := by rw [← hT1]; exact Array.size_push _
  have d3' : decode c.code (pc + 3) = .ok (.dup, 1) := by rw [hb]; exact d3
  have d4' : decode c.code (pc + 4) = .ok (.ldc 32, 2) := by rw [hb]; exact d4
  have d6' : decode c.code (pc + 6) = .ok (.invokespecial 34, 3) := by rw [hb]; exact d6
  obtain ⟨Th, Z0, L, -, Y⟩ := ThrowableC.of_atoms (args := args) howns hfin hpl (fun x hx => hat x (by simp [Bundle.ownAtoms, hx]))
  obtain ⟨Z, M, LZ, LM, hnZ⟩ := Init0T.ofS_atoms (args := args) hpl L Y (fun x hx => hat x (by simp [Bundle.ownAtoms, hx]))
  obtain ⟨P1, Ps, hlen, L1, hL, hP1m, hlink1, hlink⟩ := Bundle.chainS (args := args) hpl hnZ ISN RJxb5711 (by decide) (by decide) (fun x hx => hat x (by simp [Bundle.ownAtoms, hx]))
  have hfound : s.vm.findClass RJxb5711 = some P1.m.cls := findClass_of_methodNamed hP1m
  cases Option.some.inj (hfX.symm.trans hfound)
  obtain ⟨c1, kX', hc1, hk1, hord, -, -, hn6⟩ := Cond.instantiable_spec (a' (.instantiable RJxb5711 6) (by simp [Bundle.ownAtoms]))
  cases Option.some.inj (hc1.symm.trans hfound)
  cases Option.some.inj (hkX.symm.trans hk1)
  have hsel0 : selectMethod e.platform s.vm P1.m.cls Th.fill0 = .method Th.fill0 := by
    obtain ⟨c2, r2, m2, q1, q2, q3, q4, -⟩ := Cond.selects_spec (a' (.selects RJxb5711 Bundle.tFill0 Bundle.tFill0) (by simp [Bundle.ownAtoms]))
    cases Option.some.inj (q1.symm.trans hfound)
    cases Option.some.inj (q2.symm.trans (State.methodFound?_of_named Y.fill0 (by decide)))
    cases Option.some.inj (q3.symm.trans Y.fill0)
    rw [Launch.admits_selectMethod X.admits]; exact q4
  have hselF : selectMethod e.platform s.vm P1.m.cls Th.fill = .method Th.fill := by
    obtain ⟨c2, r2, m2, q1, q2, q3, q4, -⟩ := Cond.selects_spec (a' (.selects RJxb5711 Bundle.tFill Bundle.tFill) (by simp [Bundle.ownAtoms]))
    cases Option.some.inj (q1.symm.trans hfound)
    cases Option.some.inj (q2.symm.trans (State.methodFound?_of_named Y.fill (by decide)))
    cases Option.some.inj (q3.symm.trans Y.fill)
    rw [Launch.admits_selectMethod X.admits]; exact q4
  obtain ⟨cellS0, hcS0, hiss⟩ := Y.statics
  obtain ⟨u0, hu0⟩ := Cond.staticRefV Y.unassigned L.unassignedStatic L.statics hcS0 hiss (a' (.isRef (.static Bundle.tN "UNASSIGNED_STACK" Bundle.steD)) (by simp [Bundle.ownAtoms]))
  obtain ⟨sen, hsen⟩ := Cond.staticRefV Y.sentinel L.sentinelStatic L.statics hcS0 hiss (a' (.isRef (.static Bundle.tN "SUPPRESSED_SENTINEL" Bundle.listD)) (by simp [Bundle.ownAtoms]))
  obtain ⟨ci198, i198, fB, hk198, hg198, ha198, hsB, -, hnB, htB, hffB⟩ := Cond.ownField (t := .object "java/lang/Object") Y.found L.cls (by decide +kernel) (a' (.fieldLink Bundle.tN 198 Bundle.tN "backtrace" "Ljava/lang/Object;") (by simp [Bundle.ownAtoms])) (a' (.lays Bundle.tN Bundle.tN "backtrace" "Ljava/lang/Object;") (by simp [Bundle.ownAtoms])) e.platform hpl
  have hnA : ¬ A Th.aS := by
    obtain ⟨c5, k5, i5, f5, a5, cell5, -, q2, -, q4, -, -, -, -, -, q9⟩ := hLs
    have e1 := Option.some.inj (q2.symm.trans Y.unassigned)
    have e2 : k5 = Th.kT := congrArg (fun z => z.2.1) e1
    rw [e2, L.statics] at q4
    cases q4
    exact q9
  have hltS : Th.aS < s.heap.size := (Array.getElem?_eq_some_iff.mp hcS0).1
  have hltT : Th.aS < T.heap.size := by rw [hT]; exact Nat.lt_of_lt_of_le hltS hS.1
  have hcellS : T1.heap[Th.aS]? = some cellS0 := by rw [hold _ hltT, hT, hS.2.1 _ hltS hnA]; exact hcS0
  have hneS : Th.aS ≠ T.heap.size := Nat.ne_of_lt hltT
  have hknownS : cellS0.vm ≠ .unknown := by
    intro hu
    rw [show cellS0.vm = .unknown from hu] at hiss
    cases hiss
  obtain ⟨iM, hffM⟩ := Y.msg
  obtain ⟨tyC, dC, hdC, hdnC⟩ := Cond.laysAt hfound hk1 Y.cause (a' (.lays RJxb5711 Bundle.tN "cause" "Ljava/lang/Throwable;") (by simp [Bundle.ownAtoms]))
  obtain ⟨tyS, dS, hdS, hdnS⟩ := Cond.laysAt hfound hk1 Y.stack (a' (.lays RJxb5711 Bundle.tN "stackTrace" Bundle.steD) (by simp [Bundle.ownAtoms]))
  obtain ⟨tyP, dP, hdP, hdnP⟩ := Cond.laysAt hfound hk1 Y.supp (a' (.lays RJxb5711 Bundle.tN "suppressedExceptions" Bundle.listD) (by simp [Bundle.ownAtoms]))
  obtain ⟨tyM, dM, hdM, hdnM⟩ := Cond.laysAt hfound hk1 hffM (a' (.lays RJxb5711 Bundle.tN "detailMessage" "Ljava/lang/String;") (by simp [Bundle.ownAtoms]))
  obtain ⟨tyB, dB, hdB, hdnB⟩ := Cond.laysAt hfound hk1 hffB (a' (.lays RJxb5711 Bundle.tN "backtrace" "Ljava/lang/Object;") (by simp [Bundle.ownAtoms]))
  have bC := Cond.laysApart hdB hdC hdnB hdnC (by rw [hnB, Y.causeName]; decide)
  have bS := Cond.laysApart hdB hdS hdnB hdnS (by rw [hnB, Y.stackName]; decide)
  have bP := Cond.laysApart hdB hdP hdnB hdnP (by rw [hnB, Y.suppName]; decide)
  have hskip : SkipFacts Th e.platform s (fun u => u) u0 ((preparedCellV Th.toThrowableT (freshCell P1.m.cls kX) T.heap.size u0 sen).withEntry T1.cur) :=
    ⟨{ ci198 := ci198, i198 := i198, fBack := fB }, ⟨hk198, hg198, ha198, hsB⟩, by
      have := fresh_default (c := P1.m.cls) tyB
      rw [htB] at this
      simpa [preparedCellV, Cell.setSlot, Cell.withEntry, Array.getElem?_setIfInBounds, bC, bS, bP, bC.symm, bS.symm, bP.symm, defaultValue] using this, fun _ _ => rfl⟩
  obtain ⟨tm, methC, cdC, kC, vm₂, hnC, -, -, -, -, -, -, -, hW₁, st2⟩ := Steps.initColdS (tb := p.tables) (e := e) (below := below) (s := s) (U := T1) X₁.here hexec X₁.warmed hpl hown (t := Bundle.initS RJxb5711) rfl rfl (by decide)
    (a' (.methodLink RX13 34 (Bundle.initS RJxb5711)) (by simp [Bundle.ownAtoms])) (hat (.instanceMethod (Bundle.initS RJxb5711)) (by simp [Bundle.ownAtoms, ISN, Bundle.chainSAtoms, Bundle.passSAtoms])) (bytes := Bundle.six) (maxL := 2) (hat (.code (Bundle.initS RJxb5711) Bundle.six 2 none) (by simp [Bundle.ownAtoms, ISN, Bundle.chainSAtoms, Bundle.passSAtoms]))
    (f := { method := m, pc := pc + 6, locals := ls, stack := .ref sa :: .ref T.heap.size :: .ref T.heap.size :: rest, locked := none }) rfl (a := T.heap.size) (msg := .ref sa) (rest := .ref T.heap.size :: rest) rfl d6'
  cases Option.some.inj (hnC.symm.trans hP1m)
  have X₂ := X₁.noted hW₁
  obtain ⟨vm₃, X₃, st3⟩ := X₂.ctorMessageOffV hexec (g := { method := m, pc := pc + 6, locals := ls, stack := .ref T.heap.size :: rest, locked := none }) rfl hsize Th L Z LZ M LM (P1 :: Ps)
    (fun P hP => by rcases List.mem_cons.mp hP with rfl | hP; exact L1; exact hL P hP) ⟨hlink1, hlink⟩ (u0 := u0) (sen := sen) (self := T.heap.size) (msg := .ref sa) rfl (cell := freshCell P1.m.cls kX) (cellS := cellS0)
    hcell (fun _ => by simp) (by simp) rfl rfl hsel0 hselF hcellS hneS hknownS hu0 hsen
    (Takes.of_laid hk1 hord tyC (by rw [Y.causeType]; rfl)) (Takes.of_laid hk1 hord tyS (by rw [Y.stackType]; exact fits_refV_array _ u0)) (Takes.of_laid hk1 hord tyP (by rw [Y.suppType]; exact fits_refV_object _ sen))
    (Takes.of_laid hk1 hord tyM (by rw [Y.msgType]; exact fits_refV_object _ ⟨.ref sa, rfl⟩)) Y.objLocals hskip htr [] d6'
    (by simp only [List.length_cons, hlen]; simp [ISN]; omega) (by simp only [List.length_cons, hlen, List.map_cons, List.sum_cons, hcat]; simp [ISN, JFrame.monitorRoom]; omega)
  have hself := heapAt_setCell_self (s := (T1.setVm vm₂).setVm vm₃) (plainBareV Th.toThrowableT (freshCell P1.m.cls kX) T.heap.size u0 sen (.ref sa)) (a := T.heap.size) (by show T.heap.size < T1.heap.size; omega)
  have hH : T.heap.size = H.size := by rw [hT]
  obtain ⟨t, a1, b1⟩ := kk (((T1.setVm vm₂).setVm vm₃).setCell T.heap.size (plainBareV Th.toThrowableT (freshCell P1.m.cls kX) T.heap.size u0 sen (.ref sa))).heap _ _ (by rw [← hH, ← hsz1]; exact Array.size_setIfInBounds)
    (fun q hq => by
      have e1 := heapAt_setCell_ne (s := (T1.setVm vm₂).setVm vm₃) (a := T.heap.size) (b := q) (plainBareV Th.toThrowableT (freshCell P1.m.cls kX) T.heap.size u0 sen (.ref sa)) (Nat.ne_of_gt (Nat.lt_of_lt_of_eq hq hH.symm))
      rw [e1]
      show T1.heap[q]? = _
      rw [hold q (by omega), hT]) (by rw [← hH]; exact hself) rfl hfound
    ⟨by
      have : (((T1.setVm vm₂).setVm vm₃).setCell T.heap.size (plainBareV Th.toThrowableT (freshCell P1.m.cls kX) T.heap.size u0 sen (.ref sa))).heap.size = T1.heap.size := Array.size_setIfInBounds
      rw [this, hsz1, hH]; have := hS.1; omega, fun q hq hnq => by
      have hq2 := Nat.lt_of_lt_of_le hq hS.1
      have e1 := heapAt_setCell_ne (s := (T1.setVm vm₂).setVm vm₃) (a := T.heap.size) (b := q) (plainBareV Th.toThrowableT (freshCell P1.m.cls kX) T.heap.size u0 sen (.ref sa)) (Nat.ne_of_gt (Nat.lt_of_lt_of_eq hq2 hH.symm))
      rw [e1]
      show T1.heap[q]? = _
      rw [hold q (by omega), hT]
      exact hS.2.1 q hq hnq, fun q hq => by
      rcases List.mem_append.mp hq with h1 | h1
      · exact hS.2.2 q h1
      · have hb : q.base = T.heap.size := by
          simp only [List.mem_cons, List.not_mem_nil, or_false] at h1
          rcases h1 with rfl | rfl | rfl | rfl | rfl <;> rfl
        rw [hb]; exact hA _ (by rw [hH]; exact hS.1)⟩ _ rfl X₃
  refine ⟨t, st1 _ ?_, b1⟩
  show Steps p.tables e below (T1.setTop { method := m, pc := pc + 3, locals := ls, stack := .ref T.heap.size :: rest, locked := none }) _
  jvm_step X₁.here [X₁.here.top, hexec, d3', Value.category]
  refine X₁.ldcString hexec (own := RX13) (text := "refused") (index := 32) (a := sa) hown hstr.1 hstr.2
    (g := { method := m, pc := pc + 4, locals := ls, stack := .ref T.heap.size :: .ref T.heap.size :: rest, locked := none }) rfl d4' _ (st2 _ (fun acts => ?_))
  rw [doInvoke_state]
  refine st3 _ ?_
  rw [← hH] at a1
  exact a1
end ISE
theorem own_at {args : Array Value} {s : State} (hts : ∀ w ∈ GW, w.before args s = true) (hB : ∀ w ∈ BW, w.before args s = true) (hlU : (Cond.laysStatic Bundle.tN "UNASSIGNED_STACK" Bundle.steD).before args s = true) (hlS : (Cond.laysStatic Bundle.tN "SUPPRESSED_SENTINEL" Bundle.listD).before args s = true) (hrU : (Cond.isRef (.static Bundle.tN "UNASSIGNED_STACK" Bundle.steD)).before args s = true) (hrS : (Cond.isRef (.static Bundle.tN "SUPPRESSED_SENTINEL" Bundle.listD)).before args s = true) : ∀ w ∈ Bundle.ownAtoms RX13 34 RJxb5711 ISN, w.before args s = true := by
  have t1 : ∀ w ∈ Bundle.throwableAtoms, w.before args s = true := List.forall_mem_cons.mpr ⟨(hts _ (gw_in (tin_1 _ (List.mem_of_getElem? (i := 12) (by decide +kernel))) rfl)), List.forall_mem_cons.mpr ⟨(hts _ (gw_in (tin_6 _ (List.mem_of_getElem? (i := 108) (by decide +kernel))) rfl)), List.forall_mem_cons.mpr ⟨(hts _ (gw_in (tin_6 _ (List.mem_of_getElem? (i := 117) (by decide +kernel))) rfl)), List.forall_mem_cons.mpr ⟨(hts _ (gw_in (tin_6 _ (List.mem_of_getElem? (i := 119) (by decide +kernel))) rfl)), List.forall_mem_cons.mpr ⟨(hts _ (gw_in (tin_6 _ (List.mem_of_getElem? (i := 122) (by decide +kernel))) rfl)), List.forall_mem_cons.mpr ⟨(hts _ (gw_in (tin_6 _ (List.mem_of_getElem? (i := 124) (by decide +kernel))) rfl)), List.forall_mem_cons.mpr ⟨(hts _ (gw_in (tin_6 _ (List.mem_of_getElem? (i := 109) (by decide +kernel))) rfl)), List.forall_mem_cons.mpr ⟨(hts _ (gw_in (tin_6 _ (List.mem_of_getElem? (i := 110) (by decide +kernel))) rfl)), List.forall_mem_cons.mpr ⟨(hts _ (gw_in (tin_1 _ (List.mem_of_getElem? (i := 33) (by decide +kernel))) rfl)), List.forall_mem_cons.mpr ⟨(hts _ (gw_in (tin_1 _ (List.mem_of_getElem? (i := 34) (by decide +kernel))) rfl)), List.forall_mem_cons.mpr ⟨(hts _ (gw_in (tin_6 _ (List.mem_of_getElem? (i := 111) (by decide +kernel))) rfl)), List.forall_mem_cons.mpr ⟨(hts _ (gw_in (tin_6 _ (List.mem_of_getElem? (i := 116) (by decide +kernel))) rfl)), List.forall_mem_cons.mpr ⟨(hts _ (gw_in (tin_6 _ (List.mem_of_getElem? (i := 120) (by decide +kernel))) rfl)), List.forall_mem_cons.mpr ⟨(hts _ (gw_in (tin_6 _ (List.mem_of_getElem? (i := 140) (by decide +kernel))) rfl)), List.forall_mem_cons.mpr ⟨(hts _ (gw_in (tin_6 _ (List.mem_of_getElem? (i := 98) (by decide +kernel))) rfl)), List.forall_mem_cons.mpr ⟨(hts _ (gw_in (tin_6 _ (List.mem_of_getElem? (i := 141) (by decide +kernel))) rfl)), List.forall_mem_cons.mpr ⟨(hts _ (gw_in (tin_6 _ (List.mem_of_getElem? (i := 100) (by decide +kernel))) rfl)), List.forall_mem_cons.mpr ⟨(hts _ (gw_in (tin_6 _ (List.mem_of_getElem? (i := 142) (by decide +kernel))) rfl)), List.forall_mem_cons.mpr ⟨(hts _ (gw_in (tin_6 _ (List.mem_of_getElem? (i := 102) (by decide +kernel))) rfl)), List.forall_mem_cons.mpr ⟨(hts _ (gw_in (tin_6 _ (List.mem_of_getElem? (i := 112) (by decide +kernel))) rfl)), List.forall_mem_cons.mpr ⟨hlU, List.forall_mem_cons.mpr ⟨(hts _ (gw_in (tin_6 _ (List.mem_of_getElem? (i := 114) (by decide +kernel))) rfl)), List.forall_mem_cons.mpr ⟨hlS, List.forall_mem_cons.mpr ⟨(hts _ (gw_in (tin_6 _ (List.mem_of_getElem? (i := 104) (by decide +kernel))) rfl)), fun _ h => absurd h List.not_mem_nil⟩⟩⟩⟩⟩⟩⟩⟩⟩⟩⟩⟩⟩⟩⟩⟩⟩⟩⟩⟩⟩⟩⟩⟩
  have t2 : ∀ w ∈ Bundle.throwableSAtoms, w.before args s = true := List.forall_mem_cons.mpr ⟨(hts _ (gw_in (tin_6 _ (List.mem_of_getElem? (i := 136) (by decide +kernel))) rfl)), List.forall_mem_cons.mpr ⟨(hts _ (gw_in (tin_6 _ (List.mem_of_getElem? (i := 137) (by decide +kernel))) rfl)), List.forall_mem_cons.mpr ⟨(hts _ (gw_in (tin_6 _ (List.mem_of_getElem? (i := 139) (by decide +kernel))) rfl)), List.forall_mem_cons.mpr ⟨(hts _ (gw_in (tin_6 _ (List.mem_of_getElem? (i := 104) (by decide +kernel))) rfl)), fun _ h => absurd h List.not_mem_nil⟩⟩⟩⟩
  have t3 : ∀ w ∈ Bundle.passSAtoms RJxb5711 "java/lang/RuntimeException" 7 Bundle.six, w.before args s = true := List.forall_mem_cons.mpr ⟨(hts _ (gw_in (tin_6 _ (List.mem_of_getElem? (i := 127) (by decide +kernel))) rfl)), List.forall_mem_cons.mpr ⟨(hts _ (gw_in (tin_6 _ (List.mem_of_getElem? (i := 128) (by decide +kernel))) rfl)), List.forall_mem_cons.mpr ⟨(hts _ (gw_in (tin_6 _ (List.mem_of_getElem? (i := 129) (by decide +kernel))) rfl)), List.forall_mem_cons.mpr ⟨(hts _ (gw_in (tin_6 _ (List.mem_of_getElem? (i := 130) (by decide +kernel))) rfl)), List.forall_mem_cons.mpr ⟨(hB _ (by decide)), fun _ h => absurd h List.not_mem_nil⟩⟩⟩⟩⟩
  have t4 : ∀ w ∈ Bundle.passSAtoms "java/lang/RuntimeException" "java/lang/Exception" 7 Bundle.six, w.before args s = true := List.forall_mem_cons.mpr ⟨(hts _ (gw_in (tin_6 _ (List.mem_of_getElem? (i := 130) (by decide +kernel))) rfl)), List.forall_mem_cons.mpr ⟨(hts _ (gw_in (tin_6 _ (List.mem_of_getElem? (i := 131) (by decide +kernel))) rfl)), List.forall_mem_cons.mpr ⟨(hts _ (gw_in (tin_6 _ (List.mem_of_getElem? (i := 132) (by decide +kernel))) rfl)), List.forall_mem_cons.mpr ⟨(hts _ (gw_in (tin_6 _ (List.mem_of_getElem? (i := 133) (by decide +kernel))) rfl)), List.forall_mem_cons.mpr ⟨(hB _ (by decide)), fun _ h => absurd h List.not_mem_nil⟩⟩⟩⟩⟩
  have t5 : ∀ w ∈ Bundle.passSAtoms "java/lang/Exception" Bundle.tN 7 Bundle.six, w.before args s = true := List.forall_mem_cons.mpr ⟨(hts _ (gw_in (tin_6 _ (List.mem_of_getElem? (i := 133) (by decide +kernel))) rfl)), List.forall_mem_cons.mpr ⟨(hts _ (gw_in (tin_6 _ (List.mem_of_getElem? (i := 134) (by decide +kernel))) rfl)), List.forall_mem_cons.mpr ⟨(hts _ (gw_in (tin_6 _ (List.mem_of_getElem? (i := 135) (by decide +kernel))) rfl)), List.forall_mem_cons.mpr ⟨(hts _ (gw_in (tin_6 _ (List.mem_of_getElem? (i := 136) (by decide +kernel))) rfl)), List.forall_mem_cons.mpr ⟨(hB _ (by decide)), fun _ h => absurd h List.not_mem_nil⟩⟩⟩⟩⟩
  refine List.forall_mem_append.mpr ⟨List.forall_mem_append.mpr ⟨List.forall_mem_append.mpr ⟨t1, t2⟩, ?_⟩, ?_⟩
  · exact List.forall_mem_append.mpr ⟨t3, List.forall_mem_append.mpr ⟨t4, t5⟩⟩
  · exact List.forall_mem_cons.mpr ⟨(hts _ (gw_in (tin_6 _ (List.mem_of_getElem? (i := 126) (by decide +kernel))) rfl)), List.forall_mem_cons.mpr ⟨(hts _ (gw_in (tin_6 _ (List.mem_of_getElem? (i := 87) (by decide +kernel))) rfl)), List.forall_mem_cons.mpr ⟨(hB _ (by decide)), List.forall_mem_cons.mpr ⟨(hts _ (gw_in (tin_6 _ (List.mem_of_getElem? (i := 95) (by decide +kernel))) rfl)), List.forall_mem_cons.mpr ⟨(hts _ (gw_in (tin_6 _ (List.mem_of_getElem? (i := 96) (by decide +kernel))) rfl)), List.forall_mem_cons.mpr ⟨(hts _ (gw_in (tin_6 _ (List.mem_of_getElem? (i := 97) (by decide +kernel))) rfl)), List.forall_mem_cons.mpr ⟨(hts _ (gw_in (tin_6 _ (List.mem_of_getElem? (i := 99) (by decide +kernel))) rfl)), List.forall_mem_cons.mpr ⟨(hts _ (gw_in (tin_6 _ (List.mem_of_getElem? (i := 101) (by decide +kernel))) rfl)), List.forall_mem_cons.mpr ⟨(hts _ (gw_in (tin_6 _ (List.mem_of_getElem? (i := 103) (by decide +kernel))) rfl)), List.forall_mem_cons.mpr ⟨hrU, List.forall_mem_cons.mpr ⟨hrS, List.forall_mem_cons.mpr ⟨(hts _ (gw_in (tin_6 _ (List.mem_of_getElem? (i := 107) (by decide +kernel))) rfl)), List.forall_mem_cons.mpr ⟨(hts _ (gw_in (tin_6 _ (List.mem_of_getElem? (i := 106) (by decide +kernel))) rfl)), List.forall_mem_cons.mpr ⟨(hts _ (gw_in (tin_6 _ (List.mem_of_getElem? (i := 105) (by decide +kernel))) rfl)), fun _ h => absurd h List.not_mem_nil⟩⟩⟩⟩⟩⟩⟩⟩⟩⟩⟩⟩⟩⟩
theorem own_ck : Cond.classLink RX13 30 RJxb5711 ∈ GW ∧ Cond.initialized RJxb5711 ∈ GW := ⟨gw_in (tin_6 _ (List.mem_of_getElem? (i := 86) (by decide +kernel))) rfl, gw_in (tin_1 _ (List.mem_of_getElem? (i := 15) (by decide +kernel))) rfl⟩
