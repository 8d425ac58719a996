/-! the class's operations -/
def RXs (cap : Nat) (s : List Int64) (h : Hp) : Prop := hI h 47 4 = nI s.length ∧ s.length ≤ hN h 53 ∧ cap ≤ hN h 53 ∧ hN h 53 < 1000000 ∧ ∀ (i : Nat) (x : Int64), s[i]? = some x → hB h 53 i = x
def RXf (pc ba : Nat) (se : Int32) (bk : List BK) (h : Hp) : Prop := hI h 47 5 = nI ba ∧ hI h 47 6 = se ∧ hI h 47 7 = nI pc ∧ hI h 47 8 = nI bk.length ∧ ba < 1000000 ∧ pc < 1000000 ∧ bk.length ≤ 1000 ∧ (bk.length ≤ hN h 54 ∧ bk.length ≤ hN h 55 ∧ bk.length ≤ hN h 56) ∧ (hN h 54 < 1000000 ∧ hN h 55 < 1000000 ∧ hN h 56 < 1000000) ∧ ∀ (j : Nat) (b : BK), bk.reverse[j]? = some b → hA h 54 j = nI b.1 ∧ hA h 55 j = nI b.2.1 ∧ hA h 56 j = b.2.2 ∧ b.1 < 1000000 ∧ b.2.1 < 1000000
def RXh (F : List Int64) (ce : Nat) (gc : List Int64) (h : Hp) : Prop := hI h 48 1 = nI F.length ∧ F.length ≤ hN h 49 ∧ hN h 49 < 1000000 ∧ (∀ (i : Nat) (x : Int64), F[i]? = some x → hB h 49 i = x) ∧ hI h 48 2 = nI ce ∧ ce ≤ 40000 ∧ hN h 57 = 100 ∧ gc.length = 100 ∧ ∀ (i : Nat) (x : Int64), gc[i]? = some x → hB h 57 i = x
def RXd (th st : Nat) (lt : Int64) (lf : Nat) (h : Hp) : Prop := hI h 47 18 = nI th ∧ hI h 47 16 = nI st ∧ hL h 47 17 = lt ∧ hI h 47 15 = nI lf ∧ lf ≤ 20000
def RXp (inp out : List Int32) (h : Hp) : Prop := hN h 51 = 200 ∧ (∃ f, f < 200 ∧ hI h 50 1 = nI f ∧ hI h 50 2 = nI inp.length ∧ inp.length ≤ 200 ∧ ∀ (j : Nat) (x : Int32), inp[j]? = some x → hA h 51 ((f + j) % 200) = x) ∧ hI h 50 4 = nI out.length ∧ out.length ≤ 1000 ∧ out.length ≤ hN h 52 ∧ hN h 52 < 1000000 ∧ ∀ (j : Nat) (x : Int32), out[j]? = some x → hA h 52 j = x
def SX (G : PG) (p : Nat) (h : Hp) : Prop := Sk h ∧ Vy h ∧ Rm h ∧ PX G p h ∧ hR h 47 2 = some p ∧ pCz G < 1000000
def RX (G : PG) (p : Nat) (z : CSt) (h : Hp) : Prop := SX G p h ∧ hI h 47 14 = 1 ∧ RXs z.2.1.2.2.2 z.1.2 h ∧ RXf z.1.1 z.2.1.1 z.2.1.2.1 z.2.1.2.2.1 h ∧ RXh z.2.2.1.1 z.2.2.1.2.1 z.2.2.1.2.2 h ∧ RXd z.2.2.2.2.2.1 z.2.2.2.2.2.2.1 z.2.2.2.2.2.2.2.1 z.2.2.2.2.2.2.2.2 h ∧ RXp z.2.2.2.1 z.2.2.2.2.1 h
theorem px_same {G : PG} {p : Nat} {h g : Hp} (e1 : hI g p = hI h p) (e2 : ∀ j, j ≤ 9 → hA g (p + j) = hA h (p + j) ∧ hN g (p + j) = hN h (p + j) ∧ hB g (p + j) = hB h (p + j)) (P : PX G p h) : PX G p g := by
  unfold PX at P ⊢
  have n7 : ∀ j, 4 ≤ j → j ≤ 8 → hN g (p + j) = 120 := fun j h1 h2 => (e2 j (by omega)).2.1.trans (P.2.2.2.2.2.2.1 j h1 h2)
  refine ⟨P.1, ?_, ?_, ?_, ?_, ?_, n7, ?_, ?_, ?_, ?_, ?_, P.2.2.2.2.2.2.2.2.2.2.2.2.1, ?_, ?_⟩
  · rw [e1]; exact P.2.1
  · rw [(e2 1 (by omega)).2.1]; exact P.2.2.1
  · rw [(e2 2 (by omega)).2.1]; exact P.2.2.2.1
  · rw [(e2 1 (by omega)).1, (e2 2 (by omega)).1]; exact P.2.2.2.2.1
  · rw [e1]; exact P.2.2.2.2.2.1
  · rw [e1, (e2 4 (by omega)).1, (e2 5 (by omega)).1, (e2 6 (by omega)).1, (e2 7 (by omega)).1, (e2 8 (by omega)).1, (e2 9 (by omega)).1, (e2 9 (by omega)).2.1]; exact P.2.2.2.2.2.2.2.1
  · rw [e1]; exact P.2.2.2.2.2.2.2.2.1
  · rw [e1]; exact P.2.2.2.2.2.2.2.2.2.1
  · rw [e1]; exact P.2.2.2.2.2.2.2.2.2.2.1
  · rw [(e2 3 (by omega)).2.1]; exact P.2.2.2.2.2.2.2.2.2.2.2.1
  · rw [e1]; exact P.2.2.2.2.2.2.2.2.2.2.2.2.2.1
  · rw [(e2 3 (by omega)).2.2]; exact P.2.2.2.2.2.2.2.2.2.2.2.2.2.2
section COP
variable {h : Hp} {Q : Option Value → Hp → Prop} {d : Nat} {G : PG} {p pc : Nat}
theorem sx_I {k i : Nat} {v : Int32} (hk : 39 ≤ k) (S : SX G p h) : SX G p (pI h k i v) := by
  obtain ⟨s1, s2, s3, s4, s5, s6⟩ := S
  refine ⟨(sk_same rfl rfl rfl : Sk _ = Sk h) ▸ s1, s2, s3, px_same (up2_row ?_) (fun _ _ => ⟨rfl, rfl, rfl⟩) s4, s5, s6⟩
  rcases s4.1 with rfl | rfl <;> omega
theorem sx_L {k i : Nat} {v : Int64} (S : SX G p h) : SX G p (pL h k i v) := by
  obtain ⟨s1, s2, s3, s4, s5, s6⟩ := S
  exact ⟨(sk_same rfl rfl rfl : Sk _ = Sk h) ▸ s1, s2, s3, px_same rfl (fun _ _ => ⟨rfl, rfl, rfl⟩) s4, s5, s6⟩
theorem sx_B {k : Nat} {f : Nat → Int64} (S : SX G p h) (hk : 39 ≤ k := by decide) : SX G p (pB h k f) := by
  obtain ⟨s1, s2, s3, s4, s5, s6⟩ := S
  refine ⟨(sk_same rfl rfl rfl : Sk _ = Sk h) ▸ s1, s2, s3, px_same (h := h) (g := pB h k f) rfl (fun j hj => ⟨rfl, rfl, up1_ne ?_⟩) s4, s5, s6⟩
  rcases s4.1 with rfl | rfl <;> omega
theorem sx_A {k : Nat} {f : Nat → Int32} (hk : 39 ≤ k) (S : SX G p h) : SX G p (pA h k f) := by
  obtain ⟨s1, s2, s3, s4, s5, s6⟩ := S
  refine ⟨(sk_same rfl rfl rfl : Sk _ = Sk h) ▸ s1, s2, s3, px_same (h := h) (g := pA h k f) rfl (fun j hj => ⟨up1_ne ?_, rfl, rfl⟩) s4, s5, s6⟩
  rcases s4.1 with rfl | rfl <;> omega
theorem e156v (a : Int64) : aEv d 156 [.long a] h Q ↔ Q (some (.int (vkd a))) h := e156 d h a Q
theorem e157v (a b : Int32) : aEv d 157 [.int a, .int b] h Q ↔ Q (some (.long (vof a b))) h := e157 d h a b Q
/-- push, pop -/
def hPs (h : Hp) (n : Nat) (v : Int64) : Hp := pI (pB h 53 (vp_updL (hB h 53) n v)) 47 4 (nI (n + 1))
theorem sp_push {n : Nat} {v : Int64} (s : Sk h) (e : hI h 47 4 = nI n) (hn : n < hN h 53) (hb : hN h 53 < 1000000) (hq : Q none (hPs h n v)) : aEv d 65 [.ref 47, .long v] h Q := by
  rw [e65_47 _ _ s, e]
  simp (disch := omega) only [nI_leN, nI_ti, nI_cl, le0N, ltNN, nI_1]
  exact ⟨fun c => absurd c (by omega), fun _ => ⟨⟨trivial, hn⟩, hq⟩⟩
theorem nI_m1 {n : Nat} : nI (n + 1) - 1 = nI n := nI_pred n
theorem le_0N {n : Nat} (hn : n < 2000000000) : (nI n ≤ 0) = (n = 0) := by
  have : (0 : Int32) = nI 0 := rfl
  rw [this, nI_leN hn (by omega)]
  exact propext (by omega)
theorem sp_pop {n : Nat} (s : Sk h) (hd : 0 < d) (e : hI h 47 4 = nI (n + 1)) (hn : n < hN h 53) (hb : hN h 53 < 1000000) (hq : Q (some (.long (hB h 53 n))) (pI h 47 4 (nI n))) : aEv d 64 [.ref 47] h Q := by
  rw [e64_47 _ _ s, e]
  simp (disch := omega) only [nI_m1, nI_leN, le_0N, nI_lt0, nI_ti, nI_cl, le0N, ltNN]
  exact ⟨fun c => absurd c (by omega), fun _ => ⟨hd, fun c => c.elim, fun _ => ⟨fun c => absurd c (by omega), fun _ => ⟨⟨trivial, hn⟩, hq⟩⟩⟩⟩
theorem sp_peek {i : Nat} (s : Sk h) (hn : i < hN h 53) (hb : hN h 53 < 1000000) (hq : Q (some (.long (hB h 53 i))) h) : aEv d 62 [.ref 47, .int (nI i)] h Q := by
  rw [e62_47 _ _ s]
  simp (disch := omega) only [nI_leN, nI_lt0, nI_ti, nI_cl, le0N, ltNN]
  exact ⟨fun c => c.elim, fun _ => ⟨fun c => absurd c (by omega), fun _ => ⟨⟨trivial, hn⟩, hq⟩⟩⟩
theorem sp_poke {i : Nat} {v : Int64} (s : Sk h) (hn : i < hN h 53) (hb : hN h 53 < 1000000) (hq : Q none (pB h 53 (vp_updL (hB h 53) i v))) : aEv d 63 [.ref 47, .int (nI i), .long v] h Q := by
  rw [e63_47 _ _ s]
  simp (disch := omega) only [nI_leN, nI_lt0, nI_ti, nI_cl, le0N, ltNN]
  exact ⟨fun c => c.elim, fun _ => ⟨fun c => absurd c (by omega), fun _ => ⟨⟨trivial, hn⟩, hq⟩⟩⟩
theorem sp_lk {i sz : Nat} (s : Sk h) (e : hI h 48 1 = nI sz) (hn : i < sz) (hz : sz ≤ hN h 49) (hb : hN h 49 < 1000000) (hq : Q (some (.long (hB h 49 i))) h) : aEv d 39 [.ref 48, .int (nI i)] h Q := by
  rw [e39_48 _ _ s, e]
  simp (disch := omega) only [nI_leN, nI_lt0, nI_ti, nI_cl, le0N, ltNN]
  exact ⟨fun c => c.elim, fun _ => ⟨fun c => absurd c (by omega), fun _ => ⟨⟨trivial, by omega⟩, hq⟩⟩⟩
theorem sp_pt {i sz : Nat} {v : Int64} (s : Sk h) (e : hI h 48 1 = nI sz) (hn : i < sz) (hz : sz ≤ hN h 49) (hb : hN h 49 < 1000000) (hq : Q none (pB h 49 (vp_updL (hB h 49) i v))) : aEv d 43 [.ref 48, .int (nI i), .long v] h Q := by
  rw [e43_48 _ _ s, e]
  simp (disch := omega) only [nI_leN, nI_lt0, nI_ti, nI_cl, le0N, ltNN]
  exact ⟨fun c => c.elim, fun _ => ⟨fun c => absurd c (by omega), fun _ => ⟨⟨trivial, by omega⟩, hq⟩⟩⟩
theorem sp_keptf {a k sz : Nat} (s : Sk h) (hd : 0 < d) (e : hI h 48 1 = nI sz) (hn : a + 1 + k < sz) (hz : sz ≤ hN h 49) (hb : hN h 49 < 1000000) (hq : Q (some (.int (hB h 49 (a + 1 + k)).toInt32)) h) : aEv d 37 [.ref 48, .int (nI a), .int (nI k)] h Q := by
  rw [e37_48 _ _ s, e]
  simp (disch := omega) only [nI_1, nI_add, nI_leN, nI_lt0, nI_ti, nI_cl, le0N, ltNN]
  exact ⟨hd, fun c => c.elim, fun _ => ⟨fun c => absurd c (by omega), fun _ => ⟨⟨trivial, by omega⟩, hq⟩⟩⟩
theorem sp_lamf {a sz : Nat} (s : Sk h) (hd : 0 < d) (e : hI h 48 1 = nI sz) (hn : a < sz) (hz : sz ≤ hN h 49) (hb : hN h 49 < 1000000) (hq : Q (some (.int (hB h 49 a).toInt32)) h) : aEv d 38 [.ref 48, .int (nI a)] h Q := by
  rw [e38_48 _ _ s, e]
  simp (disch := omega) only [nI_1, nI_add, nI_leN, nI_lt0, nI_ti, nI_cl, le0N, ltNN]
  exact ⟨hd, fun c => c.elim, fun _ => ⟨fun c => absurd c (by omega), fun _ => ⟨⟨trivial, by omega⟩, hq⟩⟩⟩
/-- lists in rows -/
theorem upd_app {f : Nat → Int64} {s : List Int64} {v : Int64} (e : ∀ (i : Nat) (x : Int64), s[i]? = some x → f i = x) : ∀ (i : Nat) (x : Int64), (s ++ [v])[i]? = some x → vp_updL f s.length v i = x := fun i x q => by
  unfold vp_updL
  by_cases c : i < s.length
  · rw [List.getElem?_append_left c] at q
    rw [if_neg (by omega)]; exact e i x q
  · have hi : i = s.length := by
      have := g_lt q
      simp at this
      omega
    subst hi
    rw [List.getElem?_append_right (Nat.le_refl _), Nat.sub_self] at q
    simp at q
    rw [if_pos rfl]; exact q
theorem upd_set {f : Nat → Int64} {s : List Int64} {v : Int64} {P : Nat} (e : ∀ (i : Nat) (x : Int64), s[i]? = some x → f i = x) : ∀ (i : Nat) (x : Int64), (s.set P v)[i]? = some x → vp_updL f P v i = x := fun i x q => by
  unfold vp_updL
  by_cases c : i = P
  · subst c
    have := g_lt q
    rw [g_seteq (by simpa using this)] at q
    injection q with q
    rw [if_pos rfl]; exact q
  · rw [List.getElem?_set_ne (Ne.symm c)] at q
    rw [if_neg c]; exact e i x q
theorem rxs_push {cap : Nat} {s : List Int64} {v : Int64} (a : RXs cap s h) (hc : s.length < cap) : RXs cap (s ++ [v]) (hPs h s.length v) := by
  obtain ⟨a1, a2, a3, a4, a5⟩ := a
  refine ⟨?_, ?_, a3, a4, upd_app a5⟩
  · show nI (s.length + 1) = _
    rw [List.length_append]; rfl
  · rw [List.length_append, List.length_singleton]
    show s.length + 1 ≤ hN h 53
    omega
theorem rxs_pop {cap : Nat} {s : List Int64} {v : Int64} (a : RXs cap (s ++ [v]) h) : RXs cap s (pI h 47 4 (nI s.length)) ∧ hI h 47 4 = nI (s.length + 1) ∧ s.length < hN h 53 ∧ hB h 53 s.length = v := by
  obtain ⟨a1, a2, a3, a4, a5⟩ := a
  rw [List.length_append, List.length_singleton] at a1 a2
  refine ⟨⟨rfl, ?_, a3, a4, fun i x q => a5 i x (g_app q)⟩, a1, by omega, a5 _ _ ?_⟩
  · show s.length ≤ hN h 53
    omega
  · rw [List.getElem?_append_right (Nat.le_refl _), Nat.sub_self]; rfl
end COP
