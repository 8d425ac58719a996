/-! the heap of places and the machine's heap -/
def aty (kd : Nat) : FieldType := match kd with
  | 13 => .byte | 14 => .int | 15 => .long | _ => .boolean
def cellA (ad : Nat → Nat) (cy : Nat → ClassId) (h : Hp) (k : Nat) : va_E :=
  if hK h k = 15 then .inl (cy k, hN h k, .inr (.inl (hB h k)))
  else if 13 ≤ hK h k then .inl (cy k, hN h k, .inl (hA h k))
  else .inr (hK h k, (List.range (nfl (hK h k))).map (fun i => cz ad (fvA h (hK h k) k i)))
def Xw (ad : Nat → Nat) (cy : Nat → ClassId) (h : Hp) : va_W := (List.range (hn h)).map (fun k => (ad k, cellA ad cy h k))
/-- no place is lost: kinds, references -/
def hOK (h : Hp) : Prop := (∀ k, hn h ≤ k → hK h k = 99) ∧ (∀ k, k < hn h → hK h k ≤ 16) ∧ (∀ k i r, hR h k i = some r → r < hn h) ∧ hn h ≤ SB
def Wd (D : va_G) (s : State) (A : Nat → Prop) (H0 : Heap) (ad : Nat → Nat) (cy : Nat → ClassId) (h : Hp) (H : Heap) (locs : List Loc) : Prop :=
  va_P D vwCl (Xw ad cy h) H ∧ va_D A (Xw ad cy h) ∧ va_S A H0 H locs ∧ (∀ k, k < hn h → 13 ≤ hK h k → ArrOfT s (cy k) (aty (hK h k)) ∧ va_RA s (cy k) (aty (hK h k))) ∧ hOK h
theorem Xw_at {ad : Nat → Nat} {cy : Nat → ClassId} {h : Hp} {k : Nat} (hk : k < hn h) : (Xw ad cy h)[k]? = some (ad k, cellA ad cy h k) := by
  unfold Xw
  rw [List.getElem?_map, List.getElem?_range hk]
  rfl
theorem Xw_inv {ad : Nat → Nat} {cy : Nat → ClassId} {h : Hp} {k : Nat} {q : Nat × va_E} (hk : (Xw ad cy h)[k]? = some q) : k < hn h ∧ q = (ad k, cellA ad cy h k) := by
  unfold Xw at hk
  rw [List.getElem?_map] at hk
  by_cases hlt : k < hn h
  · rw [List.getElem?_range hlt] at hk
    exact ⟨hlt, (Option.some.inj hk).symm⟩
  · rw [List.getElem?_eq_none (by rw [List.length_range]; omega)] at hk
    cases hk
theorem Xw_len {ad : Nat → Nat} {cy : Nat → ClassId} {h : Hp} : (Xw ad cy h).length = hn h := by
  unfold Xw; rw [List.length_map, List.length_range]
theorem Xw_set {ad : Nat → Nat} {cy : Nat → ClassId} {h h' : Hp} {k : Nat} {e : va_E} (hn' : hn h' = hn h) (he : cellA ad cy h' k = e) (ho : ∀ j, j ≠ k → cellA ad cy h' j = cellA ad cy h j) : (Xw ad cy h).set k (ad k, e) = Xw ad cy h' := by
  refine List.ext_getElem? fun j => ?_
  rw [List.getElem?_set, Xw_len]
  by_cases hj : j < hn h
  · by_cases hkj : k = j
    · subst hkj
      rw [if_pos rfl, if_pos hj, Xw_at (by rw [hn']; exact hj), he]
    · rw [if_neg hkj, Xw_at hj, Xw_at (by rw [hn']; exact hj), ho j (fun z => hkj z.symm)]
  · by_cases hkj : k = j
    · subst hkj
      rw [if_pos rfl, if_neg hj, List.getElem?_eq_none (by rw [Xw_len, hn']; omega)]
    · rw [if_neg hkj, List.getElem?_eq_none (by rw [Xw_len]; omega), List.getElem?_eq_none (by rw [Xw_len, hn']; omega)]
theorem hOK_lt {h : Hp} (ho : hOK h) {k : Nat} (hk : hK h k ≤ 16) : k < hn h := by
  rcases Nat.lt_or_ge k (hn h) with q | q
  · exact q
  · have := ho.1 k q; omega
/-- heaps with the same kinds, references and places -/
def sameSh (h h' : Hp) : Prop := hK h' = hK h ∧ hR h' = hR h ∧ hn h' = hn h
theorem hOK_same {h h' : Hp} (hs : sameSh h h') (ho : hOK h) : hOK h' := by
  obtain ⟨e1, e2, e3⟩ := hs
  unfold hOK
  rw [e1, e2, e3]
  exact ho
theorem nfl_lt {ci : Nat} {C : String} {T : u_T} {N : Nat} (h : vwCl[ci]? = some (C, T, N)) : nfl ci = N := by
  unfold nfl; rw [h]
theorem fvA_int {h : Hp} {ci k i : Nat} (hf : ftk (tyOf ci i) = 0 ∨ ftk (tyOf ci i) = 1) : fvA h ci k i = .int (hI h k i) := by
  unfold fvA
  rcases hf with e | e <;> rw [e] <;> rfl
theorem fvA_long {h : Hp} {ci k i : Nat} (hf : ftk (tyOf ci i) = 2) : fvA h ci k i = .long (hL h k i) := by
  unfold fvA; rw [hf]; rfl
theorem fvA_ref {h : Hp} {ci k i : Nat} (hf : ftk (tyOf ci i) = 3) : fvA h ci k i = rfv (hR h k i) := by
  unfold fvA; rw [hf]; rfl
/-- a field's new value, in the list of the cell's fields -/
theorem map_set_at {α : Type} (f g : Nat → α) (N i : Nat) (v : α) (hv : g i = v) (ho : ∀ j, j < N → j ≠ i → g j = f j) : (List.range N).map g = ((List.range N).map f).set i v := by
  refine List.ext_getElem? fun j => ?_
  rw [List.getElem?_set, List.length_map, List.length_range, List.getElem?_map, List.getElem?_map]
  by_cases hj : j < N
  · rw [List.getElem?_range hj]
    by_cases hij : i = j
    · subst hij
      rw [if_pos rfl, if_pos hj]
      simp [hv]
    · rw [if_neg hij]
      simp [ho j hj (fun z => hij z.symm)]
  · rw [List.getElem?_eq_none (by rw [List.length_range]; omega)]
    by_cases hij : i = j
    · subst hij; rw [if_pos rfl, if_neg hj]; rfl
    · rw [if_neg hij]; rfl
theorem cellA_obj {ad : Nat → Nat} {cy : Nat → ClassId} {h : Hp} {k : Nat} (hk : hK h k < 13) : cellA ad cy h k = .inr (hK h k, (List.range (nfl (hK h k))).map (fun i => cz ad (fvA h (hK h k) k i))) := by
  unfold cellA
  rw [if_neg (by omega), if_neg (by omega)]
theorem cellA_I {ad : Nat → Nat} {cy : Nat → ClassId} {h : Hp} {k : Nat} (hk : 13 ≤ hK h k) (h2 : hK h k ≠ 15) : cellA ad cy h k = .inl (cy k, hN h k, .inl (hA h k)) := by
  unfold cellA
  rw [if_neg h2, if_pos hk]
theorem cellA_J {ad : Nat → Nat} {cy : Nat → ClassId} {h : Hp} {k : Nat} (h2 : hK h k = 15) : cellA ad cy h k = .inl (cy k, hN h k, .inr (.inl (hB h k))) := by
  unfold cellA
  rw [if_pos h2]
theorem vp_in_of_int {i : Int32} {n : Nat} (h0 : 0 ≤ i.toInt) (h1 : i.toInt < n) : vp_in i n := vp_in_iff.mpr ⟨h0, h1⟩
theorem K1 {D : va_G} {s : State} {cA : ClassId} {ty : FieldType} (hK : va_K D vwCl [] s) (ha : ArrOfT s cA ty ∧ va_RA s cA ty) : va_K D vwCl [(cA, ty)] s := by
  refine ⟨hK.1, fun k q hk => ?_⟩
  match k, hk with
  | 0, hk => cases hk; exact ha
  | n + 1, hk => simp at hk
set_option maxRecDepth 100000 in
theorem cls_ok {ci : Nat} {C : String} {T : u_T} {N : Nat} (h : vwCl[ci]? = some (C, T, N)) : (∀ w ∈ u_ws C T N, w ∈ lw_tbl) ∧ (∀ k, k < N → parseFieldDescriptor (T k).2.2.1 = some (tyOf ci k)) ∧ ∀ a, a < N → ∀ b, b < N → a ≠ b → (T a).2.1 ≠ (T b).2.1 := by
  match ci, h with
  | 0, h => cases h; exact ⟨inJxb5711, fun k hk => absurd hk (Nat.not_lt_zero k), fun a ha => absurd ha (Nat.not_lt_zero a)⟩
  | 1, h => cases h; exact ⟨inX0, tyX0_ok, nmX0⟩
  | 2, h => cases h; exact ⟨inX1, tyX1_ok, nmX1⟩
  | 3, h => cases h; exact ⟨inX2, tyX2_ok, nmX2⟩
  | 4, h => cases h; exact ⟨inX3, tyX3_ok, nmX3⟩
  | 5, h => cases h; exact ⟨inX4, tyX4_ok, nmX4⟩
  | 6, h => cases h; exact ⟨inX5, tyX5_ok, nmX5⟩
  | 7, h => cases h; exact ⟨inX6, tyX6_ok, nmX6⟩
  | 8, h => cases h; exact ⟨inX7, tyX7_ok, nmX7⟩
  | 9, h => cases h; exact ⟨inX9, tyX9_ok, nmX9⟩
  | 10, h => cases h; exact ⟨inX11, tyX11_ok, nmX11⟩
  | 11, h => cases h; exact ⟨inX12, tyX12_ok, nmX12⟩
  | 12, h => cases h; exact ⟨inX13, tyX13_ok, nmX13⟩
  | n + 13, h => simp [vwCl] at h
theorem ws_in {ci : Nat} {C : String} {T : u_T} {N : Nat} (h : vwCl[ci]? = some (C, T, N)) : ∀ w ∈ u_ws C T N, w ∈ GW := fun w hw => gw_in ((cls_ok h).1 w hw) (by
  unfold u_ws at hw
  obtain ⟨k, -, rfl⟩ := List.mem_map.mp hw
  unfold u_lay
  split <;> rfl)
def okTy (t : FieldType) : Bool := match t with
  | .int => true | .boolean => true | .long => true | .object _ => true | .array _ => true | _ => false
theorem okT_all : (List.range 13).all (fun ci => (List.range (nfl ci)).all (fun j => okTy (tyOf ci j))) = true := by decide +kernel
theorem okT {ci j : Nat} (h : ci < 13) (hj : j < nfl ci) : okTy (tyOf ci j) = true := List.all_eq_true.mp (List.all_eq_true.mp okT_all ci (List.mem_range.mpr h)) j (List.mem_range.mpr hj)
theorem up2_ne {α : Type} {f : Nat → Nat → α} {k i a b : Nat} {v : α} (h : ¬ (a = k ∧ b = i)) : up2 f k i v a b = f a b := if_neg h
theorem up2_eq {α : Type} {f : Nat → Nat → α} {k i : Nat} {v : α} : up2 f k i v k i = v := if_pos ⟨rfl, rfl⟩
theorem up1_ne {α : Type} {f : Nat → α} {k a : Nat} {v : α} (h : a ≠ k) : va_up f k v a = f a := if_neg h
theorem up1_eq {α : Type} {f : Nat → α} {k : Nat} {v : α} : va_up f k v k = v := if_pos rfl
theorem cell_pA {ad : Nat → Nat} {cy : Nat → ClassId} {h : Hp} {k j : Nat} {f : Nat → Int32} (hj : j ≠ k) : cellA ad cy (pA h k f) j = cellA ad cy h j := by
  have e : hA (pA h k f) j = hA h j := up1_ne hj
  unfold cellA; rw [e]; rfl
theorem cell_pB {ad : Nat → Nat} {cy : Nat → ClassId} {h : Hp} {k j : Nat} {f : Nat → Int64} (hj : j ≠ k) : cellA ad cy (pB h k f) j = cellA ad cy h j := by
  have e : hB (pB h k f) j = hB h j := up1_ne hj
  unfold cellA; rw [e]; rfl
theorem fvA_eq {h h' : Hp} {ci k i : Nat} (e1 : hI h' k i = hI h k i) (e2 : hL h' k i = hL h k i) (e3 : hR h' k i = hR h k i) : fvA h' ci k i = fvA h ci k i := by
  unfold fvA; rw [e1, e2, e3]
theorem cell_eqO {ad : Nat → Nat} {cy : Nat → ClassId} {h h' : Hp} {j : Nat} (eK : hK h' j = hK h j) (eN : hN h' j = hN h j) (eA : hA h' j = hA h j) (eB : hB h' j = hB h j) (eF : ∀ i, fvA h' (hK h j) j i = fvA h (hK h j) j i) : cellA ad cy h' j = cellA ad cy h j := by
  unfold cellA
  rw [eK, eN, eA, eB]
  simp only [eF]
theorem cell_pI {ad : Nat → Nat} {cy : Nat → ClassId} {h : Hp} {k i j : Nat} {v : Int32} (hj : j ≠ k) : cellA ad cy (pI h k i v) j = cellA ad cy h j :=
  cell_eqO rfl rfl rfl rfl fun b => fvA_eq (up2_ne (fun q => hj q.1)) rfl rfl
theorem cell_pL {ad : Nat → Nat} {cy : Nat → ClassId} {h : Hp} {k i j : Nat} {v : Int64} (hj : j ≠ k) : cellA ad cy (pL h k i v) j = cellA ad cy h j :=
  cell_eqO rfl rfl rfl rfl fun b => fvA_eq rfl (up2_ne (fun q => hj q.1)) rfl
theorem cell_pR {ad : Nat → Nat} {cy : Nat → ClassId} {h : Hp} {k i j : Nat} {v : Option Nat} (hj : j ≠ k) : cellA ad cy (pR h k i v) j = cellA ad cy h j :=
  cell_eqO rfl rfl rfl rfl fun b => fvA_eq rfl rfl (up2_ne (fun q => hj q.1))
theorem cz_up {ad : Nat → Nat} {n q : Nat} {v : Value} (h : okv n v) (hn : n < SB) : cz (va_up ad n q) v = cz ad v := by
  cases v with
  | ref k => exact congrArg Value.ref (up1_ne (fun e => by rcases h k rfl with z | z <;> (have e : k = n := e; omega)))
  | _ => rfl
theorem okv_fvA {h : Hp} (ho : hOK h) (ci k i : Nat) : okv (hn h) (fvA h ci k i) := by
  unfold fvA
  split
  · exact okv_int _ _
  · exact okv_int _ _
  · exact okv_long _ _
  · cases e : hR h k i with
    | none => exact okv_null _
    | some r => intro z hz; cases hz; exact Or.inl (ho.2.2.1 k i r e)
theorem Xw_push {ad : Nat → Nat} {cy : Nat → ClassId} {h h' : Hp} {q : Nat} {cA : ClassId} {e : va_E} (hn' : hn h' = hn h + 1) (ho : ∀ j, j < hn h → cellA (va_up ad (hn h) q) (va_up cy (hn h) cA) h' j = cellA ad cy h j) (he : cellA (va_up ad (hn h) q) (va_up cy (hn h) cA) h' (hn h) = e) : Xw (va_up ad (hn h) q) (va_up cy (hn h) cA) h' = Xw ad cy h ++ [(q, e)] := by
  unfold Xw
  rw [hn', List.range_succ, List.map_append]
  congr 1
  · refine List.map_congr_left fun j hj => ?_
    have hlt := List.mem_range.mp hj
    rw [ho j hlt, up1_ne (Nat.ne_of_lt hlt)]
  · simp only [List.map_cons, List.map_nil, he]
    rw [up1_eq]
