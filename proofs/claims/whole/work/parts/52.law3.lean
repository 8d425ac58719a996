/-! THE LAW's START: the texts and statics as the Statement gives them; the two constructors; the loop -/
theorem ws_sr : ∀ j : Nat, j < 6 → Cond.stringRef (sOw j).1 (sOw j).2 (sTx j) ∈ lw_tbl
  | 0, _ => (tin_2 _ (List.mem_of_getElem? (i := 233) (by decide +kernel)))
  | 1, _ => (tin_3 _ (List.mem_of_getElem? (i := 64) (by decide +kernel)))
  | 2, _ => (tin_3 _ (List.mem_of_getElem? (i := 65) (by decide +kernel)))
  | 3, _ => (tin_3 _ (List.mem_of_getElem? (i := 66) (by decide +kernel)))
  | 4, _ => (tin_3 _ (List.mem_of_getElem? (i := 98) (by decide +kernel)))
  | 5, _ => (tin_6 _ (List.mem_of_getElem? (i := 125) (by decide +kernel)))
  | n + 6, h => absurd h (by omega)
theorem ws_bw : ∀ w ∈ BW, w ∈ lw_tbl := List.forall_mem_cons.mpr ⟨(tin_6 _ (List.mem_of_getElem? (i := 88) (by decide +kernel))), List.forall_mem_cons.mpr ⟨(tin_6 _ (List.mem_of_getElem? (i := 90) (by decide +kernel))), List.forall_mem_cons.mpr ⟨(tin_6 _ (List.mem_of_getElem? (i := 92) (by decide +kernel))), List.forall_mem_cons.mpr ⟨(tin_6 _ (List.mem_of_getElem? (i := 94) (by decide +kernel))), fun _ h => absurd h List.not_mem_nil⟩⟩⟩⟩
theorem ws_ins : ∀ ci : Nat, ci < 13 → ∃ n, Cond.instantiable ((vwCl[ci]?).getD ("", fun _ => ("", "", "", false), 0)).1 n ∈ lw_tbl
  | 0, _ => ⟨6, (tin_6 _ (List.mem_of_getElem? (i := 87) (by decide +kernel)))⟩
  | 1, _ => ⟨8, (tin_1 _ (List.mem_of_getElem? (i := 206) (by decide +kernel)))⟩
  | 2, _ => ⟨2, (tin_1 _ (List.mem_of_getElem? (i := 36) (by decide +kernel)))⟩
  | 3, _ => ⟨3, (tin_2 _ (List.mem_of_getElem? (i := 31) (by decide +kernel)))⟩
  | 4, _ => ⟨19, (tin_2 _ (List.mem_of_getElem? (i := 25) (by decide +kernel)))⟩
  | 5, _ => ⟨10, (tin_1 _ (List.mem_of_getElem? (i := 58) (by decide +kernel)))⟩
  | 6, _ => ⟨5, (tin_2 _ (List.mem_of_getElem? (i := 48) (by decide +kernel)))⟩
  | 7, _ => ⟨16, (tin_1 _ (List.mem_of_getElem? (i := 142) (by decide +kernel)))⟩
  | 8, _ => ⟨14, (tin_1 _ (List.mem_of_getElem? (i := 52) (by decide +kernel)))⟩
  | 9, _ => ⟨7, (tin_1 _ (List.mem_of_getElem? (i := 212) (by decide +kernel)))⟩
  | 10, _ => ⟨11, (tin_1 _ (List.mem_of_getElem? (i := 28) (by decide +kernel)))⟩
  | 11, _ => ⟨27, (tin_6 _ (List.mem_of_getElem? (i := 152) (by decide +kernel)))⟩
  | 12, _ => ⟨72, (tin_6 _ (List.mem_of_getElem? (i := 81) (by decide +kernel)))⟩
  | n + 13, h => absurd h (by omega)
theorem ws_cs : Cond.laysStatic "java/lang/String" "COMPACT_STRINGS" "Z" ∈ lw_tbl ∧ Cond.initialized "java/lang/String" ∈ lw_tbl := ⟨(tin_3 _ (List.mem_of_getElem? (i := 11) (by decide +kernel))), (tin_1 _ (List.mem_of_getElem? (i := 21) (by decide +kernel)))⟩
theorem ws_sio : Cond.laysStatic "jdk/internal/util/Preconditions" "SIOOBE_FORMATTER" "Ljava/util/function/BiFunction;" ∈ lw_tbl ∧ Cond.initialized "jdk/internal/util/Preconditions" ∈ lw_tbl := ⟨(tin_3 _ (List.mem_of_getElem? (i := 27) (by decide +kernel))), (tin_1 _ (List.mem_of_getElem? (i := 23) (by decide +kernel)))⟩
theorem ws_us : Cond.laysStatic "java/lang/Throwable" "UNASSIGNED_STACK" "[Ljava/lang/StackTraceElement;" ∈ lw_tbl ∧ Cond.initialized "java/lang/Throwable" ∈ lw_tbl := ⟨(tin_6 _ (List.mem_of_getElem? (i := 113) (by decide +kernel))), (tin_1 _ (List.mem_of_getElem? (i := 12) (by decide +kernel)))⟩
theorem ws_ss : Cond.laysStatic "java/lang/Throwable" "SUPPRESSED_SENTINEL" "Ljava/util/List;" ∈ lw_tbl ∧ Cond.initialized "java/lang/Throwable" ∈ lw_tbl := ⟨(tin_6 _ (List.mem_of_getElem? (i := 115) (by decide +kernel))), (tin_1 _ (List.mem_of_getElem? (i := 12) (by decide +kernel)))⟩
theorem ws_wd : Cond.laysStatic "BracketTongueModel" "WORD" "[J" ∈ lw_tbl ∧ Cond.initialized "BracketTongueModel" ∈ lw_tbl := ⟨(tin_8 _ (List.mem_of_getElem? (i := 72) (by decide +kernel))), (tin_1 _ (List.mem_of_getElem? (i := 11) (by decide +kernel)))⟩
theorem bw_on {w : Cond} (hw : w ∈ BW) : w.onTables = true := by
  unfold BW at hw
  simp only [List.mem_cons, List.not_mem_nil, or_false] at hw
  rcases hw with e | e | e | e <;> (rw [e]; rfl)
theorem nest_on {w : Cond} (hw : isNest w = true) : w.onTables = true := by
  unfold isNest at hw
  split at hw
  · rfl
  · rfl
  · cases hw
def fN : List Cond := flatC (Jvm.Cond.and given_1 narrow_1)
def tmS (i : Nat) : Term := .string (sOw i).1 (sOw i).2
def bsS : List Nat := [57, 113, 167, 229, 241, 260]
theorem fN_ex : ∀ i : Nat, i < 6 → fN[bsS.getD i 0]? = some (Cond.exactly (tmS i) "java/lang/String") ∧ fN[bsS.getD i 0 + 1]? = some (Cond.eq (.field (tmS i) "java/lang/String" "coder" "B") (.int 0)) ∧ fN[bsS.getD i 0 + 2]? = some (Cond.arrayOf (.field (tmS i) "java/lang/String" "value" "[B") .byte) ∧ fN[bsS.getD i 0 + 3]? = some (Cond.eq (.length (.field (tmS i) "java/lang/String" "value" "[B")) (.int (Int32.ofNat (lenS.getD i 0)))) := by decide +kernel
theorem fN_el : ∀ i : Nat, i < 6 → ∀ j : Nat, j < lenS.getD i 0 → fN[bsS.getD i 0 + 4 + j]? = some (Cond.eq (.elem (.field (tmS i) "java/lang/String" "value" "[B") (.int (Int32.ofNat j))) (.int ((bytS.getD i []).getD j 0))) := by decide +kernel
theorem fN_ne : ∀ i : Nat, i < 6 → ∀ j : Nat, j < 6 → i ≠ j → Cond.not (Cond.eq (tmS i) (tmS j)) ∈ fN ∨ Cond.not (Cond.eq (tmS j) (tmS i)) ∈ fN := by decide +kernel
theorem fN_wd : fN[12]? = some (Cond.arrayOf (.static "BracketTongueModel" "WORD" "[J") .long) ∧ fN[13]? = some (Cond.eq (.length (.static "BracketTongueModel" "WORD" "[J")) (.int 31)) ∧ fN[4]? = some (Cond.eq (.static "java/lang/String" "COMPACT_STRINGS" "Z") (.int 1)) ∧ fN[5]? = some (Cond.isRef (.static "jdk/internal/util/Preconditions" "SIOOBE_FORMATTER" "Ljava/util/function/BiFunction;")) ∧ fN[9]? = some (Cond.isRef (.static "java/lang/Throwable" "UNASSIGNED_STACK" "[Ljava/lang/StackTraceElement;")) ∧ fN[10]? = some (Cond.isRef (.static "java/lang/Throwable" "SUPPRESSED_SENTINEL" "Ljava/util/List;")) := by decide +kernel
theorem fN_we : ∀ j : Nat, j < 31 → fN[14 + j]? = some (Cond.eq (.elem (.static "BracketTongueModel" "WORD" "[J") (.int (Int32.ofNat j))) (.long (wordTab.getD j 0))) := by decide +kernel
theorem bS_len : ∀ i : Nat, i < 6 → lenS.getD i 0 < 2 ^ 31 := by decide +kernel
section LSTART
variable {s : State} {args : Array Value}
theorem eq_int {t : Term} {v : Int32} (h : (Cond.eq t (.int v)).before args s = true) : t.eval args s none [] s = some (.int v) := by
  cases hv : t.eval args s none [] s with
  | none => simp [Cond.before, Cond.holds, Cond.value, hv] at h
  | some w => cases w <;> simp_all [Cond.before, Cond.holds, Cond.value, Term.eval]
theorem eq_long {t : Term} {v : Int64} (h : (Cond.eq t (.long v)).before args s = true) : t.eval args s none [] s = some (.long v) := by
  cases hv : t.eval args s none [] s with
  | none => simp [Cond.before, Cond.holds, Cond.value, hv] at h
  | some w => cases w <;> simp_all [Cond.before, Cond.holds, Cond.value, Term.eval]
theorem vak_start (hts : ∀ w ∈ GW, w.before args s = true) (htl : ∀ w ∈ lw_tbl, w.before args s = true) : ∃ D : va_G, va_K D vwCl [] s := by
  have h1 : ∀ ci : Nat, ∃ q : ClassId × (Nat → Nat), ∀ r : vw_C, vwCl[ci]? = some r → u_Kn s r.1 r.2.1 r.2.2 q.1 q.2 := by
    intro ci
    cases hr : vwCl[ci]? with
    | none => exact ⟨(0, fun _ => 0), fun r h => by cases h⟩
    | some r =>
      have hlt : ci < 13 := (List.getElem?_eq_some_iff.mp hr).1
      obtain ⟨n, hn⟩ := ws_ins ci hlt
      rw [hr] at hn
      obtain ⟨cC, iS, hk⟩ := u_known (C := r.1) (T := r.2.1) (N := r.2.2) hts (ws_in hr) (htl _ hn)
      exact ⟨(cC, iS), fun r' h => by cases h; exact hk⟩
  exact ⟨(fun ci => (Classical.choose (h1 ci)).1, fun ci => (Classical.choose (h1 ci)).2), fun ci q hq => Classical.choose_spec (h1 ci) q hq, fun k q hq => by cases hq⟩
theorem txx_start (htl : ∀ w ∈ lw_tbl, w.before args s = true) (hg : (Jvm.Cond.and given_1 narrow_1).before args s = true) (b : Nat) : ∃ aS : Nat → Nat, TXX aS (fun q => s.heap.size ≤ q) s s.heap ∧ aS (SB + 200) = b := by
  have hf : ∀ c ∈ fN, c.before args s = true := flat_of_before _ hg
  have hi : ∀ {k : Nat} {c : Cond}, fN[k]? = some c → c.before args s = true := fun h => hf _ (List.mem_of_getElem? h)
  have hA : ∀ a : Nat, a < s.heap.size → ¬ s.heap.size ≤ a := fun a h => Nat.not_le.mpr h
  obtain ⟨adK, adV, hS, hev⟩ := vk_Sof (args := args) (s := s) (N := 6) (tm := tmS) (len := lenS) (byt := bytS) (A := fun q => s.heap.size ≤ q) bS_len (fun i h => hi (fN_ex i h).1) (fun i h => hi (fN_ex i h).2.1) (fun i h => hi (fN_ex i h).2.2.1) (fun i h => hi (fN_ex i h).2.2.2) (fun i h j hj => hi (fN_el i h j hj)) (fun i j h1 h2 hne => (fN_ne i h1 j h2 hne).elim (fun q => Or.inl (hf _ q)) (fun q => Or.inr (hf _ q))) hA
  obtain ⟨w1, w2, w3, w4, w5, w6⟩ := fN_wd
  obtain ⟨wa, hwa, hT⟩ := va_Tof (args := args) (s := s) (tm := .static "BracketTongueModel" "WORD" "[J") (ty := .long) (N := 31) (f := fun i => .long (wordTab.getD i 0)) (A := fun q => s.heap.size ≤ q) (by decide) (hi w1) (eq_int (hi w2)) (fun j hj => eq_long (hi (fN_we j hj))) hA
  refine ⟨fun k => if k = SB + 200 then b else if k = SB + 100 then wa else if SB + 20 ≤ k then adV (k - (SB + 20)) else adK (k - SB), ?_, if_pos rfl⟩
  have eK : ∀ i : Nat, i < 6 → (if SB + i = SB + 200 then b else if SB + i = SB + 100 then wa else if SB + 20 ≤ SB + i then adV (SB + i - (SB + 20)) else adK (SB + i - SB)) = adK i := fun i h => by
    rw [if_neg (by omega), if_neg (by omega), if_neg (by omega), Nat.add_sub_cancel_left]
  have eV : ∀ i : Nat, i < 6 → (if SB + 20 + i = SB + 200 then b else if SB + 20 + i = SB + 100 then wa else if SB + 20 ≤ SB + 20 + i then adV (SB + 20 + i - (SB + 20)) else adK (SB + 20 + i - SB)) = adV i := fun i h => by
    rw [if_neg (by omega), if_neg (by omega), if_pos (by omega), Nat.add_sub_cancel_left]
  have eW : (if SB + 100 = SB + 200 then b else if SB + 100 = SB + 100 then wa else if SB + 20 ≤ SB + 100 then adV (SB + 100 - (SB + 20)) else adK (SB + 100 - SB)) = wa := by
    rw [if_neg (by omega), if_pos rfl]
  refine ⟨⟨⟨fun i h => ?_, fun i j h1 h2 he => ?_⟩, ?_, ?_, ?_⟩, ⟨fun w hw => va_Nw.of (bw_on hw) (htl _ (ws_bw w hw)), fun j hj => ?_⟩, ?_, ?_, ?_⟩
  · have := hS.1 i h
    dsimp only
    rw [eK i h, eV i h]
    exact this
  · dsimp only at he
    rw [eK i h1, eK j h2] at he
    exact hS.2 i j h1 h2 he
  · dsimp only
    rw [eW]
    exact va_Zof (htl _ ws_wd.1) (htl _ ws_wd.2) hwa hA
  · dsimp only
    rw [eW]
    exact hT
  · exact va_Zof (htl _ ws_cs.1) (htl _ ws_cs.2) (eq_int (hi w3)) hA
  · dsimp only
    rw [eK j hj]
    exact vk_R.of (htl _ (ws_sr j hj)) (hev j hj)
  · exact vx_Zqof (htl _ ws_us.1) (htl _ ws_us.2) (hi w5) hA
  · exact vx_Zqof (htl _ ws_ss.1) (htl _ ws_ss.2) (hi w6) hA
  · exact va_Zqof (htl _ ws_sio.1) (htl _ ws_sio.2) (hi w4) hA
end LSTART
def R_law : String := "BracketTongueLaw"
def lw_P (b : Addr) (xs : List Int32) (args : Array Value) (s : State) : Prop := args = #[.ref b] ∧ s.IntsAt b xs ∧ xs.length ≤ 3072 ∧ (Jvm.Cond.and given_1 narrow_1).before args s = true
def lw_Q (_ : Array Value) (s : State) (o : Outcome) (t : State) : Prop := o = .returned (some (.int 1)) ∧ Framed s o t [] 601024 7293034
def lw_Z (below : List Frame) (a : Array Value) (s : State) : State → Prop := fun t => ∃ o, t.status = .running ∧ Ended t below o ∧ lw_Q a s o t
/-- the law's own end, with 1 on the stack, nothing written that was there before, its room as the claim has it -/
theorem lw_ret {p : Program} {l : Launch} {e : Env} {s : State} {m : MethodId} {below : List Frame} {meth : Method} {c : Code} {b : Nat} (hx : p.tables.exec = Jvm.exec) (hb : c.code = code) (hr : meth.sig.returnType = ret) (hlocks : meth.locks = false) {pc : Nat} {H : Heap} {ls : Array Slot} (hdg : decode code pc = .ok (.ireturn, 1)) : W p l e room_1 s m #[Value.ref b] below meth c H [] 601024 7293034 (lw_Z below #[Value.ref b] s) (F0 m pc ls [.int 1]) := by
  intro T hT X
  obtain ⟨fs, hret, hrun, hended, hW, hframe⟩ := X.leave (v := some (.int 1)) (hlocks := hlocks) (fun h => by rw [hr] at h; cases h)
  have hmeth' : T.vm.method? m = some meth := X.method'
  refine ⟨T.setFrames fs, ?_, .returned (some (.int 1)), hrun, hended, rfl, ⟨_, rfl⟩, hW, hframe⟩
  jvm_step X.here [X.here.top, hx, hb, hdg, hmeth', hr, ret, narrow_b1]
  (try refine ⟨rfl, ?_⟩); (try refine ⟨rfl, ?_⟩)
  first | (intro acts; rw [hret _ acts rfl rfl rfl]) | rw [hret _ _ rfl rfl rfl]
  exact Steps.refl _
/-- what holds at the law's entry: the machine, the code, the tables' words (any of lw_tbl by 'hts w (by decide +kernel)'), the script of L ints xs at the cell b, what the Statement gives of the start (any of its parts by flat_of_before) -/
def lw_At (p : Program) (s : State) (m : MethodId) (meth : Method) (c : Code) (b L : Nat) (xs : Nat → Int32) : Prop :=
  p.tables.exec = Jvm.exec ∧ c.code = code ∧ meth.sig.returnType = ret ∧ c.maxLocals = 4 ∧ s.vm.findClass R_law = some m.cls ∧ (∀ w ∈ lw_tbl, w.before #[Value.ref b] s = true) ∧ va_X b L xs s s.heap ∧ b < s.heap.size ∧ meth.locks = false ∧ (Jvm.Cond.and given_1 narrow_1).before #[Value.ref b] s = true
def hE0 : Hp := (fun _ => 99, fun _ _ => 0, fun _ _ => 0, fun _ _ => none, fun _ _ => 0, fun _ _ => 0, fun _ => 0, 0, 0, fun _ => 0)
/-- what the two constructors owe -/
def InitOK (Inv : Nat → Hp → Prop) : Prop := aEv 1399 168 [.ref 0] (nO hE0 10 11) (fun r h1 => r = none ∧ hn h1 = 59 ∧ aEv 1399 217 [.ref 59] (nO h1 12 72) (fun r2 h2 => r2 = none ∧ Inv 0 h2))
section LAWS
variable {p : Program} {l : Launch} {e : Env} {s : State} {m : MethodId} {below : List Frame} {meth : Method} {c : Code} {H : Heap} {locs : List Loc} {Q : State → Prop}
variable {ls : Array Slot} {D : va_G} {ad : Nat → Nat} {cy : Nat → ClassId} {h : Hp} {aS : Nat → Nat} {b L : Nat} {xs : Nat → Int32}
theorem law_init (X : LC p l s m meth c D aS b L xs) (hw : Wd D s (fun q => s.heap.size ≤ q) s.heap ad cy h H locs) (hs : ∀ k, SB ≤ k → ad k = aS k) (hsz : ls.size = 4) {pc idx mj : Nat} {y : MI} (hdec : decode cL_law pc = .ok (.invokespecial idx, 3)) (hmlk : mlk 16 idx = some mj) (hyc : mInfC mj = some y) (hkd : y.2.2.2.2.2.2 = 2) {k : Nat} (hk : hK h k = ciO y.2.2.2.2.1) (hk13 : ciO y.2.2.2.2.1 < 13) (hlen : y.2.2.2.2.2.1 = 1) (hml : 1 ≤ y.2.2.1) {K : Option Value → Hp → Prop} (hE : aEv 1399 mj [.ref k] h K) (hnt : ∀ r h1, K r h1 → r = none) (hbd : ∀ r h1, K r h1 → hn h1 ≤ 601024 ∧ hu h1 ≤ 7293034)
    (kk : ∀ h1 ad1 cy1 H1 locs1, K none h1 → Mono h h1 → Wd D s (fun q => s.heap.size ≤ q) s.heap ad1 cy1 h1 H1 locs1 → AdR h h1 ad ad1 → W p l e room_1 s m #[Value.ref b] below meth c H1 locs1 (hn h1) (hu h1) Q (F0 m (pc + 3) ls [.ref (ad k)])) : W p l e room_1 s m #[Value.ref b] below meth c H locs (hn h) (hu h) Q (F0 m pc ls [.ref (ad k), .ref (ad k)]) := by
  obtain ⟨n, r, h1, hrn, hKK⟩ := hE
  have hr := hnt _ _ hKK
  subst hr
  obtain ⟨b1, b2⟩ := hbd _ _ hKK
  have hm := rn_mono _ _ _ _ _ _ _ _ _ hrn
  have m1 := hm.1
  have m2 := hm.2.1
  have hlt : k < hn h := hOK_lt hw.2.2.2.2 (by omega)
  have hst : okS (hn h) [.ref k, .ref k] := fun v hv => by
    simp only [List.mem_cons, List.not_mem_nil, or_false, or_self] at hv
    subst hv; intro q hq; cases hq; exact Or.inl hlt
  have hc : cOK h 2 1400 y [.ref k, .ref k] := by
    unfold cOK
    rw [hlen]
    refine ⟨hkd.symm, by decide, Nat.le_of_ble_eq_true rfl, Nat.le_of_ble_eq_true rfl, Or.inr ?_, hml⟩
    show (hK h k == ciO y.2.2.2.2.1) = true
    rw [hk]; exact beq_self_eq_true _
  refine call_W (d := 1400) (st := [.ref k, .ref k]) (snd_all (sxok aS) (txp aS) n) (txp aS) X.1 X.2.1 X.2.2.1 (by decide) (by decide) hw hs hsz (i := .invokespecial idx) (ck := 2) (idx := idx) rfl hdec hmlk hyc hc (by rw [hlen]; exact hrn) rfl hst (by show hn h + _ ≤ 601024; omega) (by show hu h + _ ≤ 7293034; omega) (fun ad1 cy1 H1 locs1 hw1 hA1 hrv => ?_)
  have := kk h1 ad1 cy1 H1 locs1 hKK hm hw1 hA1
  rw [show hn h + (hn h1 - hn h) = hn h1 by omega, show hu h + (hu h1 - hu h) = hu h1 by omega, hlen]
  exact this
set_option maxHeartbeats 4000000 in
theorem law_start {Inv : Nat → Hp → Prop} (hB : InvB Inv) (hO : OpsOK Inv) (hI : InitOK Inv) (l : Launch) (hl0 : l.stackTraces = false) (hL : L ≤ 3072) (C0 : lw_At p s m meth c b L xs) : W p l e room_1 s m #[Value.ref b] below meth c s.heap [] 0 0 (lw_Z below #[Value.ref b] s) (entryFrame m ([Value.ref b] : List Value).toArray 4) := by
  obtain ⟨hx, hb, hret, hml, hown, htl, hXs, hbl, hlk, hg⟩ := C0
  have hts : ∀ w ∈ GW, w.before #[Value.ref b] s = true := fun w hw => htl w (List.mem_filter.mp hw).1
  obtain ⟨D, hK0⟩ := vak_start hts htl
  obtain ⟨aS, hTX, haS⟩ := txx_start htl hg b
  have C : Cx p s m #[Value.ref b] meth c D (fun q => s.heap.size ≤ q) s.heap lawMI := ⟨hx, hb, hml, hown, hts, fun w hw => va_Nw.of (nest_on (List.mem_filter.mp hw).2) (htl _ (List.mem_filter.mp hw).1), hret, hlk, fun h2 => absurd h2 (by decide), hK0, fun q hq => hq⟩
  have X : LC p l s m meth c D aS b L xs := ⟨C, hl0, hTX, hXs, hbl, hL⟩
  rw [lg_entry_eq]
  have hl := lv_entry ([Value.ref b] : List Value) (n := 4) (Nat.le_of_ble_eq_true rfl)
  revert hl
  generalize ((lg_sl ([Value.ref b] : List Value) ++ List.replicate (4 - (lg_sl ([Value.ref b] : List Value)).length) Slot.unset).toArray) = ls0
  intro hl
  have hl : lv_has ls0 4 [(0, .ref b)] := hl
  have hw0 : Wd D s (fun q => s.heap.size ≤ q) s.heap aS (fun _ => 0) hE0 s.heap [] := ⟨fun k q hk => (by cases hk), ⟨fun i j p q hp => (by cases hp), fun k q hk => (by cases hk)⟩, va_S.rf, fun k hk => absurd hk (Nat.not_lt_zero k), fun k _ => rfl, fun k hk => absurd hk (Nat.not_lt_zero k), fun k i r hr => (by cases hr), Nat.zero_le _⟩
  obtain ⟨n1, r1, h1, hrn1, hr1, hn1, hE2⟩ := id hI
  have hs1 : sH 16 (.new 7) [] hE0 = some (3, [.ref 0], nO hE0 10 11) := by
    have e : nTab.lookup (16, 7) = some 10 := by decide +kernel
    unfold sH; dsimp only; rw [e]; rfl
  have hmA := rn_mono _ _ _ _ _ _ _ _ _ hrn1
  have hbd2 := op_bd hE2 (a := 601024) (b := 7293034) (fun r2 h2 q => ⟨(hB _ _ q.2).2.2.1, (hB _ _ q.2).2.2.2⟩)
  have hnO2 : hn (nO h1 12 72) = hn h1 + 1 := rfl
  have huO2 : hu (nO h1 12 72) = hu h1 + 72 := rfl
  rw [hnO2, huO2] at hbd2
  refine sH_W C hw0 hs1 dL_law_0 (fun _ hv => by cases hv) (by show 0 + 1 ≤ 601024; decide) (by show 0 + 11 ≤ 7293034; decide) (fun ad1 cy1 H1 locs1 hw1 g1 g2 => ?_)
  show W p l e room_1 s m #[Value.ref b] below meth c H1 locs1 (hn (nO hE0 10 11)) (hu (nO hE0 10 11)) (lw_Z below #[Value.ref b] s) (F0 m 3 ls0 [.ref (ad1 0)])
  refine lv_dup hx hb dL_law_3 rfl ?_
  have hEa : aEv 1399 168 [.ref 0] (nO hE0 10 11) (fun r h1 => r = none ∧ hn h1 = 59 ∧ aEv 1399 217 [.ref 59] (nO h1 12 72) (fun r2 h2 => r2 = none ∧ Inv 0 h2)) := hI
  have hbdA : ∀ (r : Option Value) (h1 : Hp), (r = none ∧ hn h1 = 59 ∧ aEv 1399 217 [.ref 59] (nO h1 12 72) (fun r2 h2 => r2 = none ∧ Inv 0 h2)) → hn h1 ≤ 601024 ∧ hu h1 ≤ 7293034 := fun r h1 q => by
    have q2 := op_bd q.2.2 (a := 601024) (b := 7293034) (fun r2 h2 q => ⟨(hB _ _ q.2).2.2.1, (hB _ _ q.2).2.2.2⟩)
    have e1 : hn (nO h1 12 72) = hn h1 + 1 := rfl
    have e2 : hu (nO h1 12 72) = hu h1 + 72 := rfl
    rw [e1, e2] at q2
    omega
  refine law_init X hw1 (fun k hk => g2 k hk) hl.1 dL_law_4 (mj := 168) (by decide +kernel) mc_168 rfl (k := 0) rfl (by decide) rfl (by decide) hEa (fun r h1 q => q.1) hbdA (fun h2 ad2 cy2 H2 locs2 hK hm hw2 hA2 => ?_)
  obtain ⟨-, hn2, hEb⟩ := hK
  have hk0 : hK h2 0 = 10 := (hm.2.2.2 0 (Nat.lt_succ_self 0)).trans rfl
  refine lv_astore_n hx hb dL_law_7 rfl hl (by decide) rfl (fun ls1 hl1 => ?_)
  have hs2 : sH 16 (.new 10) [] h2 = some (3, [.ref (hn h2)], nO h2 12 72) := by
    have e : nTab.lookup (16, 10) = some 12 := by decide +kernel
    unfold sH; dsimp only; rw [e]
    exact if_pos (by rw [hn2]; decide)
  have hbd3 := hbdA none h2 ⟨rfl, hn2, hEb⟩
  have hbd4 := op_bd hEb (a := 601024) (b := 7293034) (fun r2 h2 q => ⟨(hB _ _ q.2).2.2.1, (hB _ _ q.2).2.2.2⟩)
  have e41 : hn (nO h2 12 72) = hn h2 + 1 := rfl
  have e42 : hu (nO h2 12 72) = hu h2 + 72 := rfl
  rw [e41, e42] at hbd4
  refine sH_W C hw2 hs2 dL_law_8 (fun _ hv => by cases hv) (by show hn h2 + (hn h2 + 1 - hn h2) ≤ 601024; omega) (by show hu h2 + (hu h2 + 72 - hu h2) ≤ 7293034; omega) (fun ad3 cy3 H3 locs3 hw3 g3 g4 => ?_)
  rw [e41, e42, show hn h2 + (hn h2 + 1 - hn h2) = hn (nO h2 12 72) by rw [e41]; omega, show hu h2 + (hu h2 + 72 - hu h2) = hu (nO h2 12 72) by rw [e42]; omega, hn2]
  show W p l e room_1 s m #[Value.ref b] below meth c H3 locs3 (hn (nO h2 12 72)) (hu (nO h2 12 72)) (lw_Z below #[Value.ref b] s) (F0 m 11 ls1 [.ref (ad3 59)])
  refine lv_dup hx hb dL_law_11 rfl ?_
  have hs4 : ∀ k, SB ≤ k → ad3 k = aS k := fun k hk => (g4 k hk).trans ((hA2.2.2 k hk).trans (g2 k hk))
  refine law_init X hw3 hs4 hl1.1 dL_law_12 (mj := 217) (by decide +kernel) mc_217 rfl (k := 59) (by rw [← hn2]; exact up1_eq) (by decide) rfl (by decide) hEb (fun r h1 q => q.1) (fun r h1 q => ⟨(hB _ _ q.2).2.2.1, (hB _ _ q.2).2.2.2⟩) (fun h4 ad4 cy4 H4 locs4 hK4 hm4 hw4 hA4 => ?_)
  obtain ⟨-, hI0⟩ := hK4
  refine lv_astore_n hx hb dL_law_15 rfl hl1 (by decide) rfl (fun ls2 hl2 => ?_)
  refine lv_iconst hx hb (v := 0) dL_law_16 (by decide) ?_
  refine lv_istore_n hx hb dL_law_17 rfl hl2 (by decide) rfl (fun ls3 hl3 => ?_)
  have n59 : hK (nO h2 12 72) 59 = 12 := by rw [← hn2]; exact up1_eq
  have n0 : hK (nO h2 12 72) 0 = 10 := (up1_ne (by rw [hn2]; decide)).trans hk0
  have b4 := hB _ _ hI0
  have a0 : ad4 0 = ad1 0 := (hA4.2.1 0 (by rw [e41, hn2]; decide) (by rw [n0]; decide)).trans ((g3 0 (by rw [hn2]; decide)).trans (hA2.2.1 0 (Nat.lt_succ_self 0) (by decide)))
  have a9 : ad4 59 = ad3 59 := hA4.2.1 59 (by rw [e41, hn2]; decide) (by rw [n59]; decide)
  refine law_loop (a0 := ad1 0) (a9 := ad3 59) X hB hO ?_ 600 0 (by omega) 0 ls3 h4 ad4 cy4 H4 locs4 rfl hI0 ⟨hw4, fun k hk => (hA4.2.2 k hk).trans (hs4 k hk), ?_, a0, a9, b4.1, b4.2.1, by decide⟩
  · intro h ad cy H locs ls i w q1 q2
    refine lv_iconst hx hb (v := 1) dL_law_452 (by decide) ?_
    refine va_forget (fun q hq => w.1.2.2.1.2.2 q hq) ?_
    refine W.widen q1 q2 ?_
    exact lw_ret hx hb hret hlk dL_law_453
  · refine ⟨hl3.1, hl3.2.1, fun z hz => hl3.2.2 z ?_⟩
    simp only [List.mem_cons, List.not_mem_nil, or_false] at hz
    rcases hz with e | e | e | e
    · rw [e]; exact List.mem_cons_self
    · rw [e]; exact List.mem_cons_of_mem _ (List.mem_filter.mpr ⟨List.mem_cons_self, rfl⟩)
    · rw [e]; exact List.mem_cons_of_mem _ (List.mem_filter.mpr ⟨List.mem_cons_of_mem _ (List.mem_filter.mpr ⟨List.mem_cons_self, rfl⟩), rfl⟩)
    · rw [e]; exact List.mem_cons_of_mem _ (List.mem_filter.mpr ⟨List.mem_cons_of_mem _ (List.mem_filter.mpr ⟨List.mem_cons_of_mem _ (List.mem_filter.mpr ⟨List.mem_cons_self, rfl⟩), rfl⟩), rfl⟩)
end LAWS
