/-! the abstract machine's instructions of stack and locals are the machine's -/
def cz (ad : Nat → Nat) (v : Value) : Value := match v with
  | .ref k => .ref (ad k) | .int x => .int x | .long x => .long x | .float x => .float x | .double x => .double x | .null => .null | .retAddr x => .retAddr x
theorem cz_cat (ad : Nat → Nat) (v : Value) : (cz ad v).category = v.category := by cases v <;> rfl
def czL (ad : Nat → Nat) (L : ALS) : ALS := L.map (fun q => (q.1, cz ad q.2))
def okv (n : Nat) (v : Value) : Prop := ∀ k : Nat, v = .ref k → k < n ∨ SB ≤ k
theorem okv_int (n : Nat) (x : Int32) : okv n (.int x) := fun k h => by cases h
theorem okv_long (n : Nat) (x : Int64) : okv n (.long x) := fun k h => by cases h
theorem okv_null (n : Nat) : okv n .null := fun k h => by cases h
theorem okv_mono {n n' : Nat} {v : Value} (h : okv n v) (hn : n ≤ n') : okv n' v := fun k e => (h k e).elim (fun a => Or.inl (Nat.lt_of_lt_of_le a hn)) Or.inr
def okS (n : Nat) (st : List Value) : Prop := ∀ v ∈ st, okv n v
def okL (n : Nat) (L : ALS) : Prop := ∀ q ∈ L, okv n q.2
theorem okS_c {n : Nat} {v : Value} {st : List Value} (hv : okv n v) (h : okS n st) : okS n (v :: st) := fun w hw => by
  rcases List.mem_cons.mp hw with e | e
  · rw [e]; exact hv
  · exact h w e
theorem okS_t {n : Nat} {v : Value} {st : List Value} (h : okS n (v :: st)) : okS n st := fun w hw => h w (List.mem_cons_of_mem _ hw)
theorem okS_h {n : Nat} {v : Value} {st : List Value} (h : okS n (v :: st)) : okv n v := h v List.mem_cons_self
theorem czL_lst1 (ad : Nat → Nat) (L : ALS) (i : Nat) (v : Value) : (i, cz ad v) :: (czL ad L).filter (fun q => !(q.1 == i) && !(q.1 + 1 == i && q.2.category == 2)) = czL ad (lst1 L i v) := by
  unfold lst1 czL
  rw [List.map_cons]
  congr 1
  rw [List.filter_map]
  congr 1
  refine List.filter_congr fun q _ => ?_
  simp only [Function.comp_apply, cz_cat]
theorem czL_lst2 (ad : Nat → Nat) (L : ALS) (i : Nat) (v : Value) : (i, cz ad v) :: (czL ad L).filter (fun q => !(q.1 == i) && (!(q.1 == i + 1) && !(q.1 + 1 == i && q.2.category == 2))) = czL ad (lst2 L i v) := by
  unfold lst2 czL
  rw [List.map_cons]
  congr 1
  rw [List.filter_map]
  congr 1
  refine List.filter_congr fun q _ => ?_
  simp only [Function.comp_apply, cz_cat]
theorem okL_lst1 {n : Nat} {L : ALS} {i : Nat} {v : Value} (h : okL n L) (hv : okv n v) : okL n (lst1 L i v) := fun q hq => by
  rcases List.mem_cons.mp hq with e | e
  · rw [e]; exact hv
  · exact h q ((List.mem_filter.mp e).1)
theorem okL_lst2 {n : Nat} {L : ALS} {i : Nat} {v : Value} (h : okL n L) (hv : okv n v) : okL n (lst2 L i v) := fun q hq => by
  rcases List.mem_cons.mp hq with e | e
  · rw [e]; exact hv
  · exact h q ((List.mem_filter.mp e).1)
theorem lget_mem {L : ALS} {i : Nat} {v : Value} (h : lget L i = some v) : (i, v) ∈ L := by
  induction L with
  | nil => cases h
  | cons q t ih =>
    unfold lget at h
    split at h
    · rename_i e
      cases h
      rw [← e]
      exact List.mem_cons_self
    · exact List.mem_cons_of_mem _ (ih h)
theorem czL_get {ad : Nat → Nat} {L : ALS} {i : Nat} {v : Value} {ls : Array Slot} {nL : Nat} (hl : lv_has ls nL (czL ad L)) (h : lget L i = some v) : ls[i]? = some (.val (cz ad v)) :=
  hl.2.2 (i, cz ad v) (List.mem_map.mpr ⟨(i, v), lget_mem h, rfl⟩)
theorem iBin_s {f : Int32 → Int32 → Int32} {st st' : List Value} (h : iBin f st = some st') : ∃ x y r, st = .int y :: .int x :: r ∧ st' = .int (f x y) :: r := by
  unfold iBin at h
  split at h
  · cases h; exact ⟨_, _, _, rfl, rfl⟩
  · cases h
theorem iDiv_s {f : Int32 → Int32 → Int32} {st st' : List Value} (h : iDiv f st = some st') : ∃ x y r, st = .int y :: .int x :: r ∧ st' = .int (f x y) :: r ∧ ¬ y = 0 := by
  unfold iDiv at h
  split at h
  · split at h
    · cases h
    · rename_i hne
      cases h; exact ⟨_, _, _, rfl, rfl, hne⟩
  · cases h
theorem lBin_s {f : Int64 → Int64 → Int64} {st st' : List Value} (h : lBin f st = some st') : ∃ x y r, st = .long y :: .long x :: r ∧ st' = .long (f x y) :: r := by
  unfold lBin at h
  split at h
  · cases h; exact ⟨_, _, _, rfl, rfl⟩
  · cases h
theorem lSh_s {f : Int64 → Int32 → Int64} {st st' : List Value} (h : lSh f st = some st') : ∃ x y r, st = .int y :: .long x :: r ∧ st' = .long (f x y) :: r := by
  unfold lSh at h
  split at h
  · cases h; exact ⟨_, _, _, rfl, rfl⟩
  · cases h
theorem iUn_s {f : Int32 → Value} {st st' : List Value} (h : iUn f st = some st') : ∃ x r, st = .int x :: r ∧ st' = f x :: r := by
  unfold iUn at h
  split at h
  · cases h; exact ⟨_, _, rfl, rfl⟩
  · cases h
theorem lUn_s {f : Int64 → Value} {st st' : List Value} (h : lUn f st = some st') : ∃ x r, st = .long x :: r ∧ st' = f x :: r := by
  unfold lUn at h
  split at h
  · cases h; exact ⟨_, _, rfl, rfl⟩
  · cases h
section SNA
variable {p : Program} {l : Launch} {e : Env} {R : Room} {s : State} {m : MethodId} {args : Array Value} {below : List Frame} {meth : Method} {c : Code} {H : Heap} {locs : List Loc} {cells slots : Nat} {Q : State → Prop}
variable {cc : ByteArray} {pc : Nat} {ls : Array Slot}
set_option maxHeartbeats 4000000 in
theorem sA_W (ad : Nat → Nat) (hx : p.tables.exec = Jvm.exec) (hb : c.code = cc) {i : Instr} {st st' : List Value} (h : sA i st = some st') (hd : decode cc pc = .ok (i, 1))
    (kk : W p l e R s m args below meth c H locs cells slots Q (F0 m (pc + 1) ls (st'.map (cz ad)))) : W p l e R s m args below meth c H locs cells slots Q (F0 m pc ls (st.map (cz ad))) := by
  unfold sA at h
  split at h
  case h_1 => obtain ⟨x, y, r, rfl, rfl⟩ := iBin_s h; exact lv_iadd hx hb hd kk
  case h_2 => obtain ⟨x, y, r, rfl, rfl⟩ := iBin_s h; exact lv_isub hx hb hd kk
  case h_3 => obtain ⟨x, y, r, rfl, rfl⟩ := iBin_s h; exact lv_imul hx hb hd kk
  case h_4 => obtain ⟨x, y, r, rfl, rfl⟩ := iBin_s h; exact lv_iand hx hb hd kk
  case h_5 => obtain ⟨x, y, r, rfl, rfl⟩ := iBin_s h; exact lv_ixor hx hb hd kk
  case h_6 => obtain ⟨x, y, r, rfl, rfl⟩ := iBin_s h; exact lv_ishr hx hb hd kk
  case h_7 => obtain ⟨x, y, r, rfl, rfl, hne⟩ := iDiv_s h; exact lv_idiv hx hb hd hne kk
  case h_8 => obtain ⟨x, y, r, rfl, rfl, hne⟩ := iDiv_s h; exact lv_irem hx hb hd hne kk
  case h_9 => obtain ⟨x, r, rfl, rfl⟩ := iUn_s h; exact lv_ineg hx hb hd kk
  case h_10 => obtain ⟨x, y, r, rfl, rfl⟩ := lBin_s h; exact lv_ladd hx hb hd kk
  case h_11 => obtain ⟨x, y, r, rfl, rfl⟩ := lBin_s h; exact lv_lsub hx hb hd kk
  case h_12 => obtain ⟨x, y, r, rfl, rfl⟩ := lBin_s h; exact lv_lmul hx hb hd kk
  case h_13 => obtain ⟨x, y, r, rfl, rfl⟩ := lBin_s h; exact lv_land hx hb hd kk
  case h_14 => obtain ⟨x, y, r, rfl, rfl⟩ := lBin_s h; exact lv_lor hx hb hd kk
  case h_15 => obtain ⟨x, y, r, rfl, rfl⟩ := lSh_s h; exact lv_lshl hx hb hd rfl kk
  case h_16 => obtain ⟨x, y, r, rfl, rfl⟩ := lSh_s h; exact lv_lshr hx hb hd rfl kk
  case h_17 => obtain ⟨x, y, r, rfl, rfl⟩ := lSh_s h; exact lv_lushr hx hb hd rfl kk
  case h_18 => obtain ⟨x, r, rfl, rfl⟩ := lUn_s h; exact lv_lneg hx hb hd kk
  case h_19 => obtain ⟨x, r, rfl, rfl⟩ := iUn_s h; exact lv_i2l hx hb hd rfl kk
  case h_20 => obtain ⟨x, r, rfl, rfl⟩ := lUn_s h; exact lv_l2i hx hb hd rfl kk
  case h_21 => obtain ⟨x, r, rfl, rfl⟩ := iUn_s h; exact lv_i2b hx hb hd rfl kk
  case h_22 => obtain ⟨x, r, rfl, rfl⟩ := iUn_s h; exact lv_i2c hx hb hd rfl kk
  case h_23 =>
    split at h
    · cases h; exact W.lcmp hx hb hd kk
    · cases h
  case h_24 => cases h; exact lv_iconst hx hb hd rfl kk
  case h_25 => cases h; exact lv_lconst hx hb hd rfl kk
  case h_26 =>
    split at h
    · split at h
      · rename_i hc
        cases h; exact lv_dup hx hb hd (by rw [cz_cat]; exact hc) kk
      · cases h
    · cases h
  case h_27 =>
    split at h
    · split at h
      · rename_i hc
        cases h; exact lv_pop hx hb hd (by rw [cz_cat]; exact hc) kk
      · cases h
    · cases h
  case h_28 =>
    split at h
    · split at h
      · rename_i hc
        cases h; exact lv_dup2_11 hx hb hd (by rw [cz_cat]; exact hc.1) (by rw [cz_cat]; exact hc.2) kk
      · split at h
        · rename_i hc
          cases h; exact lv_dup2_2 hx hb hd (by rw [cz_cat]; exact hc) kk
        · cases h
    · cases h
  case h_29 =>
    split at h
    · split at h
      · rename_i hc
        cases h; exact lv_pop2_2 hx hb hd (by rw [cz_cat]; exact hc) kk
      · cases h
    · cases h
  case h_30 => cases h
theorem sA_ok {i : Instr} {st st' : List Value} {n : Nat} (h : sA i st = some st') (ho : okS n st) : okS n st' := by
  unfold sA at h
  split at h
  all_goals first
    | (obtain ⟨x, y, r, rfl, rfl⟩ := iBin_s h; exact okS_c (okv_int _ _) (okS_t (okS_t ho)))
    | (obtain ⟨x, y, r, rfl, rfl, -⟩ := iDiv_s h; exact okS_c (okv_int _ _) (okS_t (okS_t ho)))
    | (obtain ⟨x, y, r, rfl, rfl⟩ := lBin_s h; exact okS_c (okv_long _ _) (okS_t (okS_t ho)))
    | (obtain ⟨x, y, r, rfl, rfl⟩ := lSh_s h; exact okS_c (okv_long _ _) (okS_t (okS_t ho)))
    | (obtain ⟨x, r, rfl, rfl⟩ := iUn_s h; exact okS_c (okv_int _ _) (okS_t ho))
    | (obtain ⟨x, r, rfl, rfl⟩ := iUn_s h; exact okS_c (okv_long _ _) (okS_t ho))
    | (obtain ⟨x, r, rfl, rfl⟩ := lUn_s h; exact okS_c (okv_int _ _) (okS_t ho))
    | (obtain ⟨x, r, rfl, rfl⟩ := lUn_s h; exact okS_c (okv_long _ _) (okS_t ho))
    | (cases h; exact okS_c (okv_int _ _) ho)
    | (cases h; exact okS_c (okv_long _ _) ho)
    | skip
  · split at h
    · cases h; exact okS_c (okv_int _ _) (okS_t (okS_t ho))
    · cases h
  · split at h
    · split at h
      · cases h; exact okS_c (okS_h ho) ho
      · cases h
    · cases h
  · split at h
    · split at h
      · cases h; exact okS_t ho
      · cases h
    · cases h
  · split at h
    · split at h
      · cases h; exact okS_c (okS_h ho) (okS_c (okS_h (okS_t ho)) ho)
      · split at h
        · cases h; exact okS_c (okS_h ho) ho
        · cases h
    · cases h
  · split at h
    · split at h
      · cases h; exact okS_t ho
      · cases h
    · cases h
  · cases h
end SNA
