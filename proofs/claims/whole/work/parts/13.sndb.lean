def isNest (w : Cond) : Bool := match w with
  | .fieldLinkNest .. => true
  | .methodLinkNest .. => true
  | _ => false
def GW : List Cond := lw_tbl.filter goodWord
def NW : List Cond := lw_tbl.filter isNest
theorem gw_in {w : Cond} (h : w ∈ lw_tbl) (hg : goodWord w = true) : w ∈ GW := List.mem_filter.mpr ⟨h, hg⟩
theorem nw_in {w : Cond} (h : w ∈ lw_tbl) (hg : isNest w = true) : w ∈ NW := List.mem_filter.mpr ⟨h, hg⟩
def NwOK (U : State) : Prop := ∀ w ∈ NW, va_Nw w U
theorem NwOK.warm {s U : State} (hW : s.WarmedH U.vm) (h : NwOK s) : NwOK U := fun w hw => by
  have h1 := h w hw
  have h2 := (List.mem_filter.mp hw).2
  unfold isNest at h2
  split at h2
  · exact va_Nw.warmF hW h1
  · exact va_Nw.warmM hW h1
  · cases h2
theorem NwOK.same {u U : State} (hv : u.vm = U.vm) (h : NwOK u) : NwOK U := fun w hw => by
  have h1 := h w hw
  have h2 := (List.mem_filter.mp hw).2
  refine va_Nw.same ?_ hv h1
  unfold isNest at h2
  split at h2
  · rfl
  · rfl
  · cases h2
/-- what holds all through a frame -/
def Cx (p : Program) (s : State) (m : MethodId) (args : Array Value) (meth : Method) (c : Code) (D : va_G) (A : Nat → Prop) (H0 : Heap) (x : MI) : Prop :=
  p.tables.exec = Jvm.exec ∧ c.code = x.2.1 ∧ c.maxLocals = x.2.2.1 ∧ s.vm.findClass (oNm x.2.2.2.2.1) = some m.cls ∧ (∀ w ∈ GW, w.before args s = true) ∧ NwOK s ∧ meth.sig.returnType = x.2.2.2.1 ∧ meth.locks = false ∧ (x.2.2.2.2.2.2 = 2 → meth.name = "<init>") ∧ va_K D vwCl [] s ∧ ∀ q, H0.size ≤ q → A q
section SNB
variable {p : Program} {l : Launch} {e : Env} {R : Room} {s : State} {m : MethodId} {args : Array Value} {below : List Frame} {meth : Method} {c : Code} {H : Heap} {locs : List Loc} {cells slots : Nat} {Q : State → Prop}
variable {pc : Nat} {ls : Array Slot} {D : va_G} {A : Nat → Prop} {H0 : Heap} {x : MI}
set_option maxHeartbeats 4000000 in
theorem sB_W (ad : Nat → Nat) (C : Cx p s m args meth c D A H0 x) {i : Instr} {L L' : ALS} {st st' : List Value} {ln : Nat} (h : sB x.2.2.2.2.1 x.2.2.1 i L st = some (ln, L', st')) (hd : decode x.2.1 pc = .ok (i, ln)) (hl : lv_has ls x.2.2.1 (czL ad L))
    (kk : ∀ ls' : Array Slot, lv_has ls' x.2.2.1 (czL ad L') → W p l e R s m args below meth c H locs cells slots Q (F0 m (pc + ln) ls' (st'.map (cz ad)))) : W p l e R s m args below meth c H locs cells slots Q (F0 m pc ls (st.map (cz ad))) := by
  obtain ⟨hx, hb, -, hown, hts, -⟩ := C
  unfold sB at h
  split at h
  case h_1 => split at h <;> cases h; rename_i hg; exact lv_aload_n hx hb hd rfl (czL_get hl hg) (kk ls hl)
  case h_2 => split at h <;> cases h; rename_i hg; exact lv_aload hx hb hd (czL_get hl hg) (kk ls hl)
  case h_3 => split at h <;> cases h; rename_i hg; exact lv_iload_n hx hb hd rfl (czL_get hl hg) (kk ls hl)
  case h_4 => split at h <;> cases h; rename_i hg; exact lv_iload hx hb hd (czL_get hl hg) (kk ls hl)
  case h_5 => split at h <;> cases h; rename_i hg; exact lv_lload_n hx hb hd rfl (czL_get hl hg) (kk ls hl)
  case h_6 => split at h <;> cases h; rename_i hg; exact lv_lload hx hb hd (czL_get hl hg) (kk ls hl)
  case h_7 =>
    split at h
    · split at h <;> cases h
      rename_i hn
      exact lv_astore_n hx hb hd rfl hl hn (czL_lst1 ad L _ (.ref _)) kk
    · cases h
  case h_8 =>
    split at h
    · split at h <;> cases h
      rename_i hn
      exact lv_astore hx hb hd hl hn (czL_lst1 ad L _ (.ref _)) kk
    · cases h
  case h_9 =>
    split at h
    · split at h <;> cases h
      rename_i hn
      exact lv_istore_n hx hb hd rfl hl hn (czL_lst1 ad L _ (.int _)) kk
    · cases h
  case h_10 =>
    split at h
    · split at h <;> cases h
      rename_i hn
      exact lv_istore hx hb hd hl hn (czL_lst1 ad L _ (.int _)) kk
    · cases h
  case h_11 =>
    split at h
    · split at h <;> cases h
      rename_i hn
      exact lv_lstore_n hx hb hd rfl hl hn (czL_lst2 ad L _ (.long _)) kk
    · cases h
  case h_12 =>
    split at h
    · split at h <;> cases h
      rename_i hn
      exact lv_lstore hx hb hd hl hn (czL_lst2 ad L _ (.long _)) kk
    · cases h
  case h_13 =>
    split at h
    · rename_i hg
      split at h <;> cases h
      rename_i hn
      obtain ⟨k, hk⟩ := List.getElem?_of_mem (List.mem_map.mpr ⟨_, lget_mem hg, rfl⟩ : _ ∈ czL ad L)
      exact lv_iinc hx hb hd hl hk rfl hn (czL_lst1 ad L _ (.int _)) kk
    · cases h
  case h_14 => cases h; exact lv_bipush hx hb hd rfl (kk ls hl)
  case h_15 => cases h; exact lv_sipush hx hb hd rfl (kk ls hl)
  case h_16 =>
    split at h <;> cases h
    rename_i hg
    exact lv_ldc hx hb hown (hts _ (gw_in (cTab_ok _ (lk_mem hg)) rfl)) hd (kk ls hl)
  case h_17 =>
    split at h <;> cases h
    rename_i hg
    exact lv_ldcw hx hb hown (hts _ (gw_in (cTab_ok _ (lk_mem hg)) rfl)) hd (kk ls hl)
  case h_18 =>
    split at h <;> cases h
    rename_i hg
    exact lv_ldc2 hx hb hown (hts _ (gw_in (lTab_ok _ (lk_mem hg)) rfl)) hd (kk ls hl)
  case h_19 => cases h
theorem sB_ok {o nL n : Nat} {i : Instr} {L L' : ALS} {st st' : List Value} {ln : Nat} (h : sB o nL i L st = some (ln, L', st')) (hL : okL n L) (ho : okS n st) : okL n L' ∧ okS n st' := by
  unfold sB at h
  split at h
  case h_1 => split at h <;> cases h; rename_i hg; exact ⟨hL, okS_c (hL _ (lget_mem hg)) ho⟩
  case h_2 => split at h <;> cases h; rename_i hg; exact ⟨hL, okS_c (hL _ (lget_mem hg)) ho⟩
  case h_3 => split at h <;> cases h; exact ⟨hL, okS_c (okv_int _ _) ho⟩
  case h_4 => split at h <;> cases h; exact ⟨hL, okS_c (okv_int _ _) ho⟩
  case h_5 => split at h <;> cases h; exact ⟨hL, okS_c (okv_long _ _) ho⟩
  case h_6 => split at h <;> cases h; exact ⟨hL, okS_c (okv_long _ _) ho⟩
  case h_7 => split at h; (split at h <;> cases h; exact ⟨okL_lst1 hL (okS_h ho), okS_t ho⟩); cases h
  case h_8 => split at h; (split at h <;> cases h; exact ⟨okL_lst1 hL (okS_h ho), okS_t ho⟩); cases h
  case h_9 => split at h; (split at h <;> cases h; exact ⟨okL_lst1 hL (okS_h ho), okS_t ho⟩); cases h
  case h_10 => split at h; (split at h <;> cases h; exact ⟨okL_lst1 hL (okS_h ho), okS_t ho⟩); cases h
  case h_11 => split at h; (split at h <;> cases h; exact ⟨okL_lst2 hL (okS_h ho), okS_t ho⟩); cases h
  case h_12 => split at h; (split at h <;> cases h; exact ⟨okL_lst2 hL (okS_h ho), okS_t ho⟩); cases h
  case h_13 => split at h; (split at h <;> cases h; exact ⟨okL_lst1 hL (okv_int _ _), ho⟩); cases h
  case h_14 => cases h; exact ⟨hL, okS_c (okv_int _ _) ho⟩
  case h_15 => cases h; exact ⟨hL, okS_c (okv_int _ _) ho⟩
  case h_16 => split at h <;> cases h; exact ⟨hL, okS_c (okv_int _ _) ho⟩
  case h_17 => split at h <;> cases h; exact ⟨hL, okS_c (okv_int _ _) ho⟩
  case h_18 => split at h <;> cases h; exact ⟨hL, okS_c (okv_long _ _) ho⟩
  case h_19 => cases h
theorem tgt_eq {pc : Nat} {off : Int} (h : 0 ≤ (pc : Int) + off) : (pc : Int) + off = (tgt pc off : Int) := by
  unfold tgt; rw [Int.toNat_of_nonneg h]
set_option maxHeartbeats 4000000 in
theorem sJ_W (ad : Nat → Nat) (hx : p.tables.exec = Jvm.exec) {cc : ByteArray} (hb : c.code = cc) {i : Instr} {st st' : List Value} {cd : Prop} {off : Int} (h : sJ i st = some (cd, off, st')) (hd : decode cc pc = .ok (i, 3)) (ho : 0 ≤ (pc : Int) + off)
    (kt : cd → W p l e R s m args below meth c H locs cells slots Q (F0 m (tgt pc off) ls (st'.map (cz ad)))) (kf : ¬ cd → W p l e R s m args below meth c H locs cells slots Q (F0 m (pc + 3) ls (st'.map (cz ad)))) : W p l e R s m args below meth c H locs cells slots Q (F0 m pc ls (st.map (cz ad))) := by
  unfold sJ at h
  split at h
  · cases h; exact lv_goto hx hb hd (tgt_eq ho) (kt trivial)
  · rename_i cnd _
    split at h
    · cases h
      cases cnd
      · exact lv_icmp_eq hx hb hd (tgt_eq ho) kt kf
      · exact lv_icmp_ne hx hb hd (tgt_eq ho) kt (fun q => kf (fun z => z q))
      · exact lv_icmp_lt hx hb hd (tgt_eq ho) kt kf
      · exact lv_icmp_ge hx hb hd (tgt_eq ho) kt kf
      · exact lv_icmp_gt hx hb hd (tgt_eq ho) kt kf
      · exact lv_icmp_le hx hb hd (tgt_eq ho) kt kf
    · cases h
  · rename_i cnd _
    split at h
    · cases h
      cases cnd
      · exact lv_if_eq hx hb hd (tgt_eq ho) kt kf
      · exact lv_if_ne hx hb hd (tgt_eq ho) kt (fun q => kf (fun z => z q))
      · exact lv_if_lt hx hb hd (tgt_eq ho) kt kf
      · exact lv_if_ge hx hb hd (tgt_eq ho) kt kf
      · exact lv_if_gt hx hb hd (tgt_eq ho) kt kf
      · exact lv_if_le hx hb hd (tgt_eq ho) kt kf
    · cases h
  · cases h
theorem sJ_ok {n : Nat} {i : Instr} {st st' : List Value} {cd : Prop} {off : Int} (h : sJ i st = some (cd, off, st')) (ho : okS n st) : okS n st' := by
  unfold sJ at h
  split at h
  · cases h; exact ho
  · split at h <;> cases h; exact okS_t (okS_t ho)
  · split at h <;> cases h; exact okS_t ho
  · cases h
set_option maxHeartbeats 4000000 in
theorem sS_W (ad : Nat → Nat) (hx : p.tables.exec = Jvm.exec) {cc : ByteArray} (hb : c.code = cc) {i : Instr} {st st' : List Value} {off : Int} {len : Nat} (h : sS i st = some (off, st')) (hd : decode cc pc = .ok (i, len)) (ho : 0 ≤ (pc : Int) + off)
    (kt : W p l e R s m args below meth c H locs cells slots Q (F0 m (tgt pc off) ls (st'.map (cz ad)))) : W p l e R s m args below meth c H locs cells slots Q (F0 m pc ls (st.map (cz ad))) := by
  unfold sS at h
  split at h
  · split at h
    · split at h
      · rename_i hc
        cases h
        exact lv_tableOut hx hb hd hc (tgt_eq ho) kt
      · rename_i hc
        split at h
        · rename_i hq
          cases h
          exact lv_tableIn hx hb hd (fun q => hc (Or.inl q)) (fun q => hc (Or.inr q)) hq (tgt_eq ho) kt
        · cases h
    · cases h
  · split at h
    · split at h
      · rename_i hc
        cases h
        exact lv_lookup hx hb hd hc rfl (tgt_eq ho) kt
      · cases h
    · cases h
  · cases h
theorem sS_ok {n : Nat} {i : Instr} {st st' : List Value} {off : Int} (h : sS i st = some (off, st')) (ho : okS n st) : okS n st' := by
  unfold sS at h
  split at h
  · split at h
    · split at h
      · cases h; exact okS_t ho
      · split at h <;> cases h; exact okS_t ho
    · cases h
  · split at h
    · split at h <;> cases h; exact okS_t ho
    · cases h
  · cases h
end SNB
