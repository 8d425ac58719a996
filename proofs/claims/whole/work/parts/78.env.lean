/-! the open call: shape, stack, slots -/
def Env (G : PG) (pl : List (Nat × Nat)) (S : Shp) (L : Nat) (shl sll shf slf sh : List Nat) (ba : Nat) (se : Int32) (bk : List BK) (cap : Nat) (sl : List Nat) (bs : Nat) (pr : Option Nat) (op : Nat) : Prop :=
  sh = shl ++ shf ∧ sl = sll ++ slf ∧ ba = shl.length ∧ bs = sll.length ∧ Slf pl pr se L ∧ Cur S shf slf ∧ slf.length = pSn G L ∧ shl.length + pDm G L ≤ cap ∧ op = bk.length ∧ op ≤ 1000 ∧ S.length ≤ pDm G L ∧ L ≤ pLm G
theorem nsl_len {b P : Nat} : ∀ {k : Nat} {sl : List Nat}, (nsl sl P b k).length = sl.length
  | 0, _ => rfl
  | k + 1, sl => by simp [nsl, nsl_len (k := k)]
theorem nsl_app {sll : List Nat} {b P : Nat} : ∀ {k : Nat} {sl : List Nat}, nsl (sll ++ sl) (sll.length + P) b k = sll ++ nsl sl P b k
  | 0, _ => rfl
  | k + 1, sl => by
    simp only [nsl, nsl_app (k := k)]
    rw [List.set_append_right _ _ (by omega), show sll.length + P + k - sll.length = P + k by omega]
theorem nsl_old {b P i : Nat} : ∀ {k : Nat} {sl : List Nat}, i < P ∨ P + k ≤ i → (nsl sl P b k)[i]? = sl[i]?
  | 0, _, _ => rfl
  | k + 1, sl, h => by
    simp only [nsl]
    rw [List.getElem?_set_ne (by omega), nsl_old (by omega)]
theorem nsl_new {b P i : Nat} : ∀ {k : Nat} {sl : List Nat}, i < k → P + k ≤ sl.length → (nsl sl P b k)[P + i]? = some (b + i + 2)
  | 0, _, h, _ => by omega
  | k + 1, sl, h, q => by
    simp only [nsl]
    by_cases c : i = k
    · subst c
      exact g_seteq (by rw [nsl_len]; omega)
    · rw [List.getElem?_set_ne (by omega)]
      exact nsl_new (by omega) (by omega)
theorem cur_push {S : Shp} {sh sl : List Nat} (h : Cur S sh sl) : Cur (S ++ [none]) (sh ++ [0]) sl := by
  obtain ⟨h1, h2, h3⟩ := h
  refine ⟨by simp [h1], fun j e => ?_, fun j s e => ?_⟩
  · by_cases c : j < S.length
    · rw [List.getElem?_append_left c] at e
      exact g_app (h2 j e)
    · have hj : j = S.length := by
        have := g_lt e
        simp at this
        omega
      subst hj
      rw [List.getElem?_append_right (by omega), h1, Nat.sub_self]; rfl
  · by_cases c : j < S.length
    · rw [List.getElem?_append_left c] at e
      obtain ⟨b, e1, e2⟩ := h3 j s e
      exact ⟨b, g_app e1, e2⟩
    · rw [List.getElem?_append_right (by omega)] at e
      have := List.mem_of_getElem? e
      simp at this
theorem cur_drop {S B : Shp} {sh sl : List Nat} (h : Cur (S ++ B) sh sl) : Cur S (sh.take S.length) sl := by
  obtain ⟨h1, h2, h3⟩ := h
  have h1 : sh.length = S.length + B.length := by simpa using h1
  refine ⟨by simp; omega, fun j e => ?_, fun j s e => ?_⟩
  · rw [List.getElem?_take_of_lt (g_lt e)]
    exact h2 j (g_app e)
  · obtain ⟨b, e1, e2⟩ := h3 j s (g_app e)
    exact ⟨b, by rw [List.getElem?_take_of_lt (g_lt e)]; exact e1, e2⟩
theorem cur_bnd {S : Shp} {sh sl : List Nat} {s k b : Nat} (h : Cur S sh sl) (hs : ∀ t, some t ∈ S → t < s) (hk : s + k ≤ sl.length) : Cur (S ++ bnd s k) (sh ++ nbx b k) (nsl sl s b k) := by
  obtain ⟨h1, h2, h3⟩ := h
  refine ⟨by simp [h1, bnd, nbx], fun j e => ?_, fun j t e => ?_⟩
  · by_cases c : j < S.length
    · rw [List.getElem?_append_left c] at e
      exact g_app (h2 j e)
    · rw [List.getElem?_append_right (by omega)] at e
      exact absurd rfl (bnd_some _ (List.mem_of_getElem? e))
  · by_cases c : j < S.length
    · rw [List.getElem?_append_left c] at e
      obtain ⟨x, e1, e2⟩ := h3 j t e
      refine ⟨x, g_app e1, ?_⟩
      rw [nsl_old (Or.inl (hs t (List.mem_of_getElem? e)))]
      exact e2
    · rw [List.getElem?_append_right (by omega)] at e
      have hj := g_lt e
      rw [bnd_len] at hj
      simp only [bnd, List.getElem?_map, List.getElem?_range hj, Option.map_some, Option.some.injEq] at e
      subst e
      refine ⟨b + (j - S.length), ?_, nsl_new hj hk⟩
      rw [List.getElem?_append_right (by omega), h1]
      exact nbx_get hj
section ENV
variable {G : PG} {pl : List (Nat × Nat)} {S : Shp} {L : Nat} {shl sll shf slf sh : List Nat} {ba : Nat} {se : Int32} {bk : List BK} {cap : Nat} {sl : List Nat} {bs : Nat} {pr : Option Nat} {op : Nat}
theorem env_push (h : Env G pl S L shl sll shf slf sh ba se bk cap sl bs pr op) (q : S.length < pDm G L) : Env G pl (S ++ [none]) L shl sll (shf ++ [0]) slf (sh ++ [0]) ba se bk cap sl bs pr op := by
  obtain ⟨h1, h2, h3, h4, h5, h6, h7, h8, h9, h10, h11, h12⟩ := h
  exact ⟨by rw [h1, List.append_assoc], h2, h3, h4, h5, cur_push h6, h7, h8, h9, h10, by simp; omega, h12⟩
theorem env_drop {B : Shp} (h : Env G pl (S ++ B) L shl sll shf slf sh ba se bk cap sl bs pr op) : Env G pl S L shl sll (shf.take S.length) slf (sh.take (shl.length + S.length)) ba se bk cap sl bs pr op ∧ sh = sh.take (shl.length + S.length) ++ shf.drop S.length ∧ (shf.drop S.length).length = B.length := by
  obtain ⟨h1, h2, h3, h4, h5, h6, h7, h8, h9, h10, h11, h12⟩ := h
  have hl : shf.length = S.length + B.length := by simpa using h6.1
  have e : sh.take (shl.length + S.length) = shl ++ shf.take S.length := by rw [h1, List.take_append, List.take_of_length_le (by omega), Nat.add_sub_cancel_left]
  refine ⟨⟨e, h2, h3, h4, h5, cur_drop h6, h7, h8, h9, h10, by simp at h11; omega, h12⟩, ?_, by simp; omega⟩
  rw [e, List.append_assoc, List.take_append_drop, h1]
theorem env_bnd {s k b : Nat} (h : Env G pl S L shl sll shf slf sh ba se bk cap sl bs pr op) (hs : ∀ t, some t ∈ S → t < s) (hk : s + k ≤ pSn G L) (hd : S.length + k ≤ pDm G L) : Env G pl (S ++ bnd s k) L shl sll (shf ++ nbx b k) (nsl slf s b k) (sh ++ nbx b k) ba se bk cap (nsl sl (bs + s) b k) bs pr op := by
  obtain ⟨h1, h2, h3, h4, h5, h6, h7, h8, h9, h10, h11, h12⟩ := h
  exact ⟨by rw [h1, List.append_assoc], by rw [h2, h4, nsl_app], h3, h4, h5, cur_bnd h6 hs (by omega), by rw [nsl_len]; exact h7, h8, h9, h10, by simp [bnd_len]; omega, h12⟩
theorem env_get {j t : Nat} (h : Env G pl S L shl sll shf slf sh ba se bk cap sl bs pr op) (e : S[j]? = some (some t)) : ∃ b, sh[ba + j]? = some (b + 2) ∧ sl[bs + t]? = some (b + 2) := by
  obtain ⟨h1, h2, h3, h4, h5, h6, _⟩ := h
  obtain ⟨b, e1, e2⟩ := h6.2.2 j t e
  refine ⟨b, ?_, ?_⟩
  · rw [h1, h3, List.getElem?_append_right (by omega), Nat.add_sub_cancel_left]; exact e1
  · rw [h2, h4, List.getElem?_append_right (by omega), Nat.add_sub_cancel_left]; exact e2
theorem env_len (h : Env G pl S L shl sll shf slf sh ba se bk cap sl bs pr op) : sh.length = ba + S.length ∧ ba + pDm G L ≤ cap ∧ S.length ≤ pDm G L := by
  obtain ⟨h1, h2, h3, h4, h5, h6, h7, h8, h9, h10, h11, h12⟩ := h
  exact ⟨by rw [h1, List.length_append, h6.1, h3], by omega, h11⟩
theorem env_pl {x : List (Nat × Nat)} (h : Env G pl S L shl sll shf slf sh ba se bk cap sl bs pr op) : Env G (pl ++ x) S L shl sll shf slf sh ba se bk cap sl bs pr op := by
  obtain ⟨h1, h2, h3, h4, h5, h6⟩ := h
  refine ⟨h1, h2, h3, h4, ?_, h6⟩
  rcases h5 with h | ⟨i, a, h1, h2, h3⟩
  · exact Or.inl h
  · exact Or.inr ⟨i, a, h1, h2, g_app h3⟩
/-- values that wait, at the end of the shape -/
theorem env_tmp {k : Nat} (h : Env G pl (S ++ List.replicate k none) L shl sll shf slf sh ba se bk cap sl bs pr op) : shf.drop S.length = List.replicate k 0 := by
  have hc := h.2.2.2.2.2.1
  have hl : shf.length = S.length + k := by simpa using hc.1
  refine List.ext_getElem? fun i => ?_
  rw [List.getElem?_drop]
  by_cases c : i < k
  · rw [List.getElem?_replicate_of_lt c]
    refine hc.2.1 (S.length + i) ?_
    rw [List.getElem?_append_right (by omega), Nat.add_sub_cancel_left, List.getElem?_replicate_of_lt c]
  · rw [List.getElem?_eq_none (by omega), List.getElem?_eq_none (by simp; omega)]
end ENV
