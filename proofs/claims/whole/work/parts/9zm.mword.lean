/-! BUILD. The reference: words by their numbers -/
def stp (v : Int64) (c : Int32) : Int64 := v <<< ((8 : Int32).toInt64 &&& 63) ||| c.toInt64
def numB (s : List Int32) : Int64 := s.foldl stp 0
def nv (s : List Nat) : Nat := s.foldl (fun v c => 256 * v + c) 0
/-- signs of a word, as numbers -/
def sN (t : Nat → Nat) (p e : Nat) : List Nat := (List.range (e - p)).map (fun m => t (p + m))
def Dgs (s : List Nat) : Prop := ∀ c, c ∈ s → 1 ≤ c ∧ c < 256
def wS : List (List Nat) := [[113, 117, 111, 116, 101], [108, 97, 109, 98, 100, 97], [105, 102], [108, 101, 116], [108, 101, 116, 114, 101, 99], [115, 101, 116, 33], [98, 101, 103, 105, 110], [97, 110, 100], [111, 114], [100, 101, 102, 105, 110, 101], [99, 97, 114], [99, 100, 114], [112, 97, 105, 114, 63], [110, 117, 108, 108, 63], [105, 110, 116, 101, 103, 101, 114, 63], [112, 114, 111, 99, 101, 100, 117, 114, 101, 63], [110, 111, 116], [101, 109, 105, 116], [99, 111, 110, 115], [115, 101, 116, 45, 99, 97, 114, 33], [115, 101, 116, 45, 99, 100, 114, 33], [101, 113, 63], [43], [45], [42], [113, 117, 111, 116, 105, 101, 110, 116], [114, 101, 109, 97, 105, 110, 100, 101, 114], [61], [60], [114, 101, 97, 100]]
theorem nc_64 : ∀ c, c < 256 → (nI c).toInt64 = Int64.ofNat c := by decide +kernel
theorem sh8 (a c : Nat) (hc : c < 256) : stp (Int64.ofNat a) (nI c) = Int64.ofNat (256 * a + c) := by
  unfold stp
  rw [nc_64 c hc]
  apply Int64.toBitVec_inj.mp
  have e8 : ((8 : Int32).toInt64 &&& 63) = 8 := by decide
  rw [e8, Int64.toBitVec_or, Int64.toBitVec_shiftLeft]
  have e9 : (Int64.toBitVec 8).smod 64 = 8#64 := by decide
  rw [e9]
  have t1 : ∀ x : Nat, (Int64.ofNat x).toBitVec = BitVec.ofNat 64 x := fun x => rfl
  rw [t1, t1, t1]
  apply BitVec.eq_of_toNat_eq
  rw [BitVec.toNat_or, BitVec.toNat_ofNat, BitVec.toNat_ofNat]
  have e10 : (BitVec.ofNat 64 a <<< 8#64).toNat = 2 ^ 8 * (a % 2 ^ 56) := by
    rw [BitVec.shiftLeft_eq', BitVec.toNat_shiftLeft, BitVec.toNat_ofNat]
    have : (8#64).toNat = 8 := by decide
    rw [this, Nat.shiftLeft_eq]
    omega
  rw [e10, Nat.mod_eq_of_lt (show c < 2 ^ 64 by omega), ← Nat.two_pow_add_eq_or_of_lt (show c < 2 ^ 8 by omega)]
  omega
theorem num_f : ∀ (s : List Nat) (a : Nat), (∀ c, c ∈ s → c < 256) → (s.map nI).foldl stp (Int64.ofNat a) = Int64.ofNat (s.foldl (fun v c => 256 * v + c) a)
  | [], _, _ => rfl
  | c :: s, a, h => by
    rw [List.map_cons, List.foldl_cons, List.foldl_cons, sh8 a c (h c (by simp))]
    exact num_f s _ (fun x hx => h x (List.mem_cons_of_mem _ hx))
theorem num_v {s : List Nat} (h : Dgs s) : numB (s.map nI) = Int64.ofNat (nv s) := num_f s 0 (fun c hc => (h c hc).2)
theorem nv_s {s : List Nat} {c : Nat} : nv (s ++ [c]) = 256 * nv s + c := by
  unfold nv
  rw [List.foldl_append]; rfl
theorem nv_f : ∀ (s : List Nat) (a : Nat), (∀ c, c ∈ s → c < 256) → s.foldl (fun v c => 256 * v + c) a < (a + 1) * 256 ^ s.length
  | [], a, _ => by simp
  | c :: s, a, h => by
    rw [List.foldl_cons, List.length_cons]
    have h1 := nv_f s (256 * a + c) (fun x hx => h x (List.mem_cons_of_mem _ hx))
    have h2 := h c (by simp)
    have h3 : (256 * a + c + 1) * 256 ^ s.length ≤ (256 * (a + 1)) * 256 ^ s.length := Nat.mul_le_mul_right _ (by omega)
    have h4 : (256 * (a + 1)) * 256 ^ s.length = (a + 1) * 256 ^ (s.length + 1) := by rw [Nat.pow_succ, Nat.mul_comm 256 (a + 1), Nat.mul_assoc, Nat.mul_comm 256]
    omega
theorem nv_lt {s : List Nat} (h : Dgs s) (hl : s.length ≤ 8) : nv s < 18446744073709551616 := by
  have h1 := nv_f s 0 (fun c hc => (h c hc).2)
  have h2 : 256 ^ s.length ≤ 256 ^ 8 := Nat.pow_le_pow_right (by decide) hl
  have h3 : (256 : Nat) ^ 8 = 18446744073709551616 := by decide
  unfold nv
  omega
theorem snoc_or (s : List Nat) : s = [] ∨ ∃ s' c, s = s' ++ [c] := by
  cases h : s.reverse with
  | nil => exact Or.inl (List.reverse_eq_nil_iff.mp h)
  | cons c r => exact Or.inr ⟨r.reverse, c, by have := congrArg List.reverse h; rw [List.reverse_reverse, List.reverse_cons] at this; exact this⟩
theorem nv_inj : ∀ (m : Nat) (s s' : List Nat), s.length ≤ m → Dgs s → Dgs s' → nv s = nv s' → s = s' := by
  intro m
  induction m with
  | zero =>
    intro s s' hl h h' e
    have : s = [] := List.length_eq_zero_iff.mp (by omega)
    subst this
    rcases snoc_or s' with rfl | ⟨r, c, rfl⟩
    · rfl
    · have := (h' c (by simp)).1
      rw [nv_s] at e
      have z : nv [] = 0 := rfl
      omega
  | succ m ih =>
    intro s s' hl h h' e
    rcases snoc_or s with rfl | ⟨r, c, rfl⟩
    · rcases snoc_or s' with rfl | ⟨r', c', rfl⟩
      · rfl
      · have := (h' c' (by simp)).1
        rw [nv_s] at e
        have z : nv [] = 0 := rfl
        omega
    · have hc := h c (by simp)
      rcases snoc_or s' with rfl | ⟨r', c', rfl⟩
      · rw [nv_s] at e
        have z : nv [] = 0 := rfl
        omega
      · have hc' := h' c' (by simp)
        rw [nv_s, nv_s] at e
        have e1 : c = c' := by omega
        have e2 : nv r = nv r' := by omega
        subst e1
        rw [List.length_append, List.length_singleton] at hl
        rw [ih r r' (by omega) (fun x hx => h x (List.mem_append_left _ hx)) (fun x hx => h' x (List.mem_append_left _ hx)) e2]
theorem o64_inj {a b : Nat} (ha : a < 18446744073709551616) (hb : b < 18446744073709551616) (h : Int64.ofNat a = Int64.ofNat b) : a = b := by
  have h1 := congrArg (fun x => x.toBitVec.toNat) h
  have t1 : ∀ x : Nat, (Int64.ofNat x).toBitVec.toNat = x % 2 ^ 64 := fun x => rfl
  have h1 : (Int64.ofNat a).toBitVec.toNat = (Int64.ofNat b).toBitVec.toNat := h1
  rw [t1, t1] at h1
  omega
theorem num_inj {s s' : List Nat} (h : Dgs s) (h' : Dgs s') (l : s.length ≤ 8) (l' : s'.length ≤ 8) : numB (s.map nI) = numB (s'.map nI) ↔ s = s' := by
  refine ⟨fun e => ?_, fun e => by rw [e]⟩
  rw [num_v h, num_v h'] at e
  exact nv_inj 8 s s' l h h' (o64_inj (nv_lt h l) (nv_lt h' l') e)
theorem ky_f : ∀ (s : List Int32) (k : K3), s.foldl tkS k = ((s.take (6 - k.2.2)).foldl stp k.1, (s.drop (6 - k.2.2)).foldl stp k.2.1, k.2.2 + s.length)
  | [], k => by simp
  | c :: s, k => by
    rw [List.foldl_cons, ky_f s (tkS k c)]
    unfold tkS
    by_cases h : 6 ≤ k.2.2
    · rw [if_pos h]
      dsimp only
      rw [show 6 - k.2.2 = 0 by omega, show 6 - (k.2.2 + 1) = 0 by omega]
      simp only [List.take_zero, List.drop_zero, List.foldl_nil, List.foldl_cons, List.length_cons]
      refine Prod.ext rfl (Prod.ext rfl ?_)
      show k.2.2 + 1 + s.length = k.2.2 + (s.length + 1)
      omega
    · rw [if_neg h]
      dsimp only
      obtain ⟨m, hm⟩ : ∃ m, 6 - k.2.2 = m + 1 := ⟨5 - k.2.2, by omega⟩
      rw [hm, show 6 - (k.2.2 + 1) = m by omega]
      simp only [List.take_succ_cons, List.drop_succ_cons, List.foldl_cons, List.length_cons]
      refine Prod.ext rfl (Prod.ext rfl ?_)
      show k.2.2 + 1 + s.length = k.2.2 + (s.length + 1)
      omega
theorem ky_e (s : List Int32) : ky s = (numB (s.take 6), numB (s.drop 6)) := by
  unfold ky kyS
  rw [ky_f]
  rfl
theorem ky_inj {s s' : List Nat} (h : Dgs s) (h' : Dgs s') (l : s.length ≤ 12) (l' : s'.length ≤ 12) (e : ky (s.map nI) = ky (s'.map nI)) : s = s' := by
  rw [ky_e, ky_e] at e
  injection e with e1 e2
  rw [← List.map_take, ← List.map_take] at e1
  rw [← List.map_drop, ← List.map_drop] at e2
  have h1 := (num_inj (fun c hc => h c (List.mem_of_mem_take hc)) (fun c hc => h' c (List.mem_of_mem_take hc)) (by rw [List.length_take]; omega) (by rw [List.length_take]; omega)).mp e1
  have h2 := (num_inj (fun c hc => h c (List.mem_of_mem_drop hc)) (fun c hc => h' c (List.mem_of_mem_drop hc)) (by rw [List.length_drop]; omega) (by rw [List.length_drop]; omega)).mp e2
  rw [← List.take_append_drop 6 s, ← List.take_append_drop 6 s', h1, h2]
theorem str_sN {t : Nat → Nat} {p e : Nat} : str t p e = (sN t p e).map nI := by
  unfold str sN
  rw [List.map_map]
  rfl
theorem sN_len {t : Nat → Nat} {p e : Nat} : (sN t p e).length = e - p := by
  unfold sN
  rw [List.length_map, List.length_range]
theorem sN_s {t : Nat → Nat} {p e : Nat} (h : p ≤ e) : sN t p (e + 1) = sN t p e ++ [t e] := by
  unfold sN
  rw [show e + 1 - p = (e - p) + 1 by omega, List.range_succ, List.map_append]
  simp only [List.map_cons, List.map_nil]
  rw [show p + (e - p) = e by omega]
theorem sN_app {t : Nat → Nat} {p m : Nat} (h1 : p ≤ m) : ∀ (k : Nat), sN t p (m + k) = sN t p m ++ sN t m (m + k)
  | 0 => by
    have : sN t m (m + 0) = [] := by unfold sN; rw [show m + 0 - m = 0 by omega]; rfl
    rw [this, List.append_nil]; rfl
  | k + 1 => by
    rw [show m + (k + 1) = (m + k) + 1 by omega, sN_s (by omega), sN_s (by omega), sN_app h1 k, List.append_assoc]
theorem sN_dg {t : Nat → Nat} {p e : Nat} (ht : ∀ j, t j < 256) (h : ∀ i, p ≤ i → i < e → isW (t i) = true) : Dgs (sN t p e) := fun c hc => by
  unfold sN at hc
  obtain ⟨m, hm, rfl⟩ := List.mem_map.mp hc
  have hm := List.mem_range.mp hm
  refine ⟨?_, ht _⟩
  have := h (p + m) (by omega) (by omega)
  apply Classical.byContradiction
  intro z
  rw [show t (p + m) = 0 by omega] at this
  exact absurd this (by decide)
theorem ws_ok : wS.length = 30 ∧ (∀ s, s ∈ wS → s.length ≤ 12 ∧ 1 ≤ s.length ∧ ∀ c, c ∈ s → 1 ≤ c ∧ c < 256) ∧ K30 = wS.map (fun s => ky (s.map nI)) := by decide +kernel
theorem ws_tab : ∀ w, w < 31 → (w = 0 ∨ w = 15 ∨ w = 16 ∨ w = 20 ∨ w = 21 ∨ w = 27) ∨ ((wS.getD (w - 1) []).length ≤ 8 ∧ wordTab.getD w 0 = numB ((wS.getD (w - 1) []).map nI)) := by decide +kernel
theorem ws_sp : (wS.getD 14 []).length = 8 ∧ (7597137600295825983 : Int64) = numB ((wS.getD 14 []).map nI) ∧ (wS.getD 15 []).length = 10 ∧ (8102661152286471538 : Int64) = numB (((wS.getD 15 []).take 8).map nI) ∧ (25919 : Int64) = numB (((wS.getD 15 []).drop 8).map nI) ∧ (wS.getD 19 []).length = 8 ∧ (8315180025299169825 : Int64) = numB ((wS.getD 19 []).map nI) ∧ (wS.getD 20 []).length = 8 ∧ (8315180025299366433 : Int64) = numB ((wS.getD 20 []).map nI) ∧ (wS.getD 26 []).length = 9 ∧ (8243114958119658597 : Int64) = numB (((wS.getD 26 []).take 8).map nI) ∧ (wS.getD 26 []).drop 8 = [114] := by decide +kernel
