/-! THE REFERENCE'S STATE in the heap -/
def MXc (md : Option Nat) (nw : Int64) (h : Hp) : Prop := hL h 59 65 = nw ∧ ((∃ n, md = some n ∧ hI h 59 66 = 0 ∧ hI h 59 67 = nI n) ∨ (md = none ∧ hI h 59 66 = 1))
def MXt (td : List TD) (h : Hp) : Prop := hI h 59 50 = nI td.length ∧ td.length ≤ hN h 122 ∧ (hN h 123 = hN h 122 ∧ hN h 124 = hN h 122) ∧ hN h 122 ≤ 90000 ∧ ∀ (j : Nat) (e : TD), td.reverse[j]? = some e → hA h 122 j = nI e.1 ∧ hA h 123 j = e.2.1 ∧ hA h 124 j = e.2.2 ∧ e.1 < 100
def MXw (wk : List Int64) (h : Hp) : Prop := hI h 59 52 = nI wk.length ∧ wk.length ≤ hN h 125 ∧ hN h 125 ≤ 620000 ∧ ∀ (i : Nat) (x : Int64), wk[i]? = some x → hB h 125 i = x
def MXs (pa : List (Int64 × Int64)) (ce : Nat) (gr : List Int64) (h : Hp) : Prop := hI h 59 31 = nI pa.length ∧ hN h 112 = 46200 ∧ hN h 113 = 46200 ∧ pa.length ≤ 6200 + ce ∧ (∀ (i : Nat) (u v : Int64), pa[i]? = some (u, v) → hB h 112 i = u ∧ hB h 113 i = v) ∧ hI h 59 39 = nI ce ∧ ce ≤ 40000 ∧ hN h 126 = 3000 ∧ gr.length ≤ 100 ∧ ∀ (g : Nat) (x : Int64), gr[g]? = some x → hB h 126 g = x
def MXp (inp out : List Int32) (h : Hp) : Prop := (hN h 127 = 200 ∧ hI h 59 55 = nI inp.length ∧ inp.length ≤ 200 ∧ ∀ (j : Nat) (x : Int32), inp[j]? = some x → hA h 127 j = x) ∧ hN h 128 = 1000 ∧ hI h 59 57 = nI out.length ∧ out.length ≤ 1000 ∧ ∀ (j : Nat) (x : Int32), out[j]? = some x → hA h 128 j = x
def MXd (th op st : Nat) (lt : Int64) (bu : Nat) (h : Hp) : Prop := hI h 59 58 = nI th ∧ hI h 59 59 = nI op ∧ op ≤ 1000 ∧ hL h 59 62 = Int64.ofNat st ∧ hL h 59 64 = lt ∧ hI h 59 61 = nI bu ∧ bu ≤ 20000
/-- kept boxes, one procedure's behind the other's -/
def kfl (ps : List (Nat × List Nat)) : List Nat := (ps.map (fun p => p.2)).flatten
/-- a chain of free boxes -/
def Fch (f : Nat → Int32) : Int32 → List Nat → Prop
  | c, [] => c = -1
  | c, b :: l => c = nI b ∧ b < 300000 ∧ Fch f (f b) l
/-- boxes: rl where each that is alive lies, fl those that are free -/
def Bxs (sl : List Nat) (bx : List Int64) (ps : List (Nat × List Nat)) (h : Hp) (rl : Nat → Nat) (fl : List Nat) : Prop :=
  (∀ j c : Nat, sl[j]? = some c → (c = 0 ∧ hA h 121 j = -1) ∨ ∃ b, c = b + 2 ∧ hA h 121 j = nI (rl b)) ∧ (∀ j b : Nat, (kfl ps)[j]? = some b → hA h 118 j = nI (rl b)) ∧
  (∀ b, (b + 2 ∈ sl ∨ b ∈ kfl ps) → rl b < hN h 119 ∧ ∃ x, bx[b]? = some x ∧ hB h 119 (rl b) = x) ∧
  (∀ b b', (b + 2 ∈ sl ∨ b ∈ kfl ps) → (b' + 2 ∈ sl ∨ b' ∈ kfl ps) → rl b = rl b' → b = b') ∧
  Fch (hA h 120) (hI h 59 42) fl ∧ fl.Nodup ∧ ∀ f, f ∈ fl → f < hN h 119 ∧ ∀ b, (b + 2 ∈ sl ∨ b ∈ kfl ps) → rl b ≠ f
def MXb (sl : List Nat) (bs : Nat) (pr : Option Nat) (bx : List Int64) (ps : List (Nat × List Nat)) (h : Hp) : Prop := (hI h 59 44 = nI sl.length ∧ sl.length ≤ hN h 121 ∧ hI h 59 45 = nI bs ∧ bs ≤ 252000 ∧ hI h 59 46 = oI pr ∧ (∀ i, pr = some i → i < ps.length) ∧ (hN h 121 = 1024 ∨ hN h 121 = 4096 ∨ hN h 121 = 16384 ∨ hN h 121 = 65536 ∨ hN h 121 = 262144)) ∧
  (hI h 59 37 = nI ps.length ∧ ps.length ≤ 40000 ∧ hN h 116 = 40001 ∧ hN h 117 = 40001 ∧ hN h 118 = 40001 ∧ hI h 59 38 = nI (kfl ps).length ∧ (kfl ps).length ≤ 40000 ∧ ∀ i L ks, ps[i]? = some (L, ks) → hA h 116 i = nI L ∧ ∃ o, hA h 117 i = nI o ∧ o + ks.length ≤ (kfl ps).length ∧ ∀ k b : Nat, ks[k]? = some b → (kfl ps)[o + k]? = some b) ∧
  (hN h 120 = hN h 119 ∧ (hN h 119 = 4096 ∨ hN h 119 = 16384 ∨ hN h 119 = 65536 ∨ hN h 119 = 300000)) ∧ ∃ rl fl, Bxs sl bx ps h rl fl
def RM (G : PG) (q : Nat) (qv : Nat → Int64) (z : RSt) (h : Hp) : Prop := SM G q qv h ∧ MXc z.1.1 z.1.2.1 h ∧ MXt z.1.2.2.1 h ∧ MXw z.1.2.2.2 h ∧ MXb z.2.1.1 z.2.1.2.1 z.2.1.2.2 z.2.2.1.1 z.2.2.1.2.1 h ∧ MXs z.2.2.1.2.2.1 z.2.2.1.2.2.2.1 z.2.2.1.2.2.2.2 h ∧ MXp z.2.2.2.1 z.2.2.2.2.1 h ∧ MXd z.2.2.2.2.2.1 z.2.2.2.2.2.2.1 z.2.2.2.2.2.2.2.1 z.2.2.2.2.2.2.2.2.1 z.2.2.2.2.2.2.2.2.2 h ∧ hI h 59 68 = 0 ∧ hI h 59 69 = -1 ∧ hI h 59 71 = 0 ∧ z.2.2.1.2.1.length + (kfl z.2.2.1.2.1).length ≤ z.2.2.1.2.2.2.1
/-- all groups but those of a list are kept -/
def KMt (h h' : Hp) : Prop := (∀ td, MXt td h → MXt td h')
def KMo (h h' : Hp) : Prop := (∀ md nw, MXc md nw h → MXc md nw h') ∧ (∀ wk, MXw wk h → MXw wk h') ∧ (∀ sl bs pr bx ps, MXb sl bs pr bx ps h → MXb sl bs pr bx ps h') ∧ (∀ pa ce gr, MXs pa ce gr h → MXs pa ce gr h') ∧ (∀ inp out, MXp inp out h → MXp inp out h') ∧ (∀ th op st lt bu, MXd th op st lt bu h → MXd th op st lt bu h') ∧ hI h' 59 68 = hI h 59 68 ∧ hI h' 59 69 = hI h 59 69 ∧ hI h' 59 71 = hI h 59 71
section REC
variable {h h' : Hp} {Q : Option Value → Hp → Prop} {d : Nat} {G : PG} {q : Nat} {qv : Nat → Int64} {r n : Nat}
theorem km_rf : KMo h h := ⟨fun _ _ q => q, fun _ q => q, fun _ _ _ _ _ q => q, fun _ _ _ q => q, fun _ _ q => q, fun _ _ _ _ _ q => q, rfl, rfl, rfl⟩
theorem km_tr {h1 h2 : Hp} (a : KMo h h1) (b : KMo h1 h2) : KMo h h2 := ⟨fun _ _ q => b.1 _ _ (a.1 _ _ q), fun _ q => b.2.1 _ (a.2.1 _ q), fun _ _ _ _ _ q => b.2.2.1 _ _ _ _ _ (a.2.2.1 _ _ _ _ _ q), fun _ _ _ q => b.2.2.2.1 _ _ _ (a.2.2.2.1 _ _ _ q), fun _ _ q => b.2.2.2.2.1 _ _ (a.2.2.2.2.1 _ _ q), fun _ _ _ _ _ q => b.2.2.2.2.2.1 _ _ _ _ _ (a.2.2.2.2.2.1 _ _ _ _ _ q), b.2.2.2.2.2.2.1.trans a.2.2.2.2.2.2.1, b.2.2.2.2.2.2.2.1.trans a.2.2.2.2.2.2.2.1, b.2.2.2.2.2.2.2.2.trans a.2.2.2.2.2.2.2.2⟩
/-- a row of the todo list grows -/
theorem km_gro (g : Gro r n h h') (hr : r = 122 ∨ r = 123 ∨ r = 124) : KMo h h' := by
  have q : ∀ b, b < 130 → b ≠ 122 → b ≠ 123 → b ≠ 124 → hA h' b = hA h b ∧ hB h' b = hB h b ∧ hN h' b = hN h b := fun b h1 h2 h3 h4 => g.2.2.2.2.1 b h1 (by omega)
  have i1 := g.2.1
  have l1 := g.2.2.1
  have q125 := q 125 (by decide) (by decide) (by decide) (by decide)
  have q121 := q 121 (by decide) (by decide) (by decide) (by decide)
  have q116 := q 116 (by decide) (by decide) (by decide) (by decide)
  have q117 := q 117 (by decide) (by decide) (by decide) (by decide)
  have q118 := q 118 (by decide) (by decide) (by decide) (by decide)
  have q119 := q 119 (by decide) (by decide) (by decide) (by decide)
  have q120 := q 120 (by decide) (by decide) (by decide) (by decide)
  have q112 := q 112 (by decide) (by decide) (by decide) (by decide)
  have q113 := q 113 (by decide) (by decide) (by decide) (by decide)
  have q126 := q 126 (by decide) (by decide) (by decide) (by decide)
  have q127 := q 127 (by decide) (by decide) (by decide) (by decide)
  have q128 := q 128 (by decide) (by decide) (by decide) (by decide)
  refine ⟨fun _ _ q => ?_, fun _ q => ?_, fun _ _ _ _ _ q => ?_, fun _ _ _ q => ?_, fun _ _ q => ?_, fun _ _ _ _ _ q => ?_, by rw [i1], by rw [i1], by rw [i1]⟩
  · unfold MXc at q ⊢; rw [i1, l1]; exact q
  · unfold MXw at q ⊢; rw [i1, q125.2.1, q125.2.2]; exact q
  · unfold MXb Bxs at q ⊢
    rw [i1, q121.1, q121.2.2, q116.1, q116.2.2, q117.1, q117.2.2, q118.1, q118.2.2, q119.2.1, q119.2.2, q120.1, q120.2.2]; exact q
  · unfold MXs at q ⊢; rw [i1, q112.2.1, q112.2.2, q113.2.1, q113.2.2, q126.2.1, q126.2.2]; exact q
  · unfold MXp at q ⊢; rw [i1, q127.1, q127.2.2, q128.1, q128.2.2]; exact q
  · unfold MXd at q ⊢; rw [i1, l1]; exact q
theorem pm_same {g : Hp} (e1 : hI g q = hI h q) (e2 : ∀ j, j ≤ 19 → hA g (q + j) = hA h (q + j) ∧ hN g (q + j) = hN h (q + j)) (P : PM G q h) : PM G q g := by
  unfold PM at P ⊢
  refine ⟨P.1, by rw [e1]; exact P.2.1, P.2.2.1, fun j h1 h2 => ?_, ?_, fun j h1 h2 => ?_, ?_, ?_, ?_, ?_, by rw [e1]; exact P.2.2.2.2.2.2.2.2.2.2.1, by rw [e1]; exact P.2.2.2.2.2.2.2.2.2.2.2⟩
  · rw [(e2 j (by omega)).1, (e2 j (by omega)).2]; exact P.2.2.2.1 j h1 h2
  · rw [(e2 10 (by omega)).1, (e2 10 (by omega)).2]; exact P.2.2.2.2.1
  · rw [(e2 j (by omega)).2]; exact P.2.2.2.2.2.1 j h1 h2
  · rw [(e2 14 (by omega)).1, (e2 15 (by omega)).1, (e2 16 (by omega)).1, (e2 17 (by omega)).1]; exact P.2.2.2.2.2.2.1
  · rw [(e2 18 (by omega)).2]; exact P.2.2.2.2.2.2.2.1
  · rw [(e2 19 (by omega)).2]; exact P.2.2.2.2.2.2.2.2.1
  · rw [(e2 18 (by omega)).1, (e2 19 (by omega)).1]; exact P.2.2.2.2.2.2.2.2.2.1
theorem sm_gro (g : Gro r n h h') (S : SM G q qv h) (hr : r ∈ GLs) (hr2 : 115 ≤ r) (hc : hN h' r ≤ cpR r) : SM G q qv h' := by
  obtain ⟨s1, s2, s3, s4, s5, s6, s7⟩ := S
  have q4 := g.2.2.2.2.1 114 (by decide) (by omega)
  refine ⟨gro_sk g s1, gro_vy g s2, gro_rm g s3 hr hc (by omega), pm_same (by rw [g.2.1]) (fun j hj => ?_) s4, by rw [g.1]; exact s5, by rw [q4.2.2]; exact s6, by rw [q4.2.1]; exact s7.1, kq_same (by rw [g.2.1]; exact ⟨rfl, rfl, rfl, rfl⟩) (g.2.2.2.2.1 60 (by decide) (by omega)).1 (g.2.2.2.2.1 129 (by decide) (fun c => absurd hr (by rw [← c]; decide))).2.1 (by rw [g.1]) s7.2⟩
  have := g.2.2.2.2.1 (q + j) (by rcases s4.1 with rfl | rfl <;> omega) (by rcases s4.1 with rfl | rfl <;> omega)
  exact ⟨this.1, this.2.2⟩
theorem sm_I {i : Nat} {v : Int32} (S : SM G q qv h) (hi : i ≠ 1 ∧ i ≠ 2 ∧ i ≠ 3 ∧ i ≠ 19 := by decide) : SM G q qv (pI h 59 i v) := by
  obtain ⟨s1, s2, s3, s4, s5, s6, s7⟩ := S
  exact ⟨(sk_same rfl rfl rfl : Sk _ = Sk h) ▸ s1, s2, s3, pm_same (up2_row (by rcases s4.1 with rfl | rfl <;> decide)) (fun _ _ => ⟨rfl, rfl⟩) s4, s5, s6, s7.1, kq_same (h := h) (g := pI h 59 i v) ⟨up2_ne (fun c => hi.1 c.2.symm), up2_ne (fun c => hi.2.1 c.2.symm), up2_ne (fun c => hi.2.2.1 c.2.symm), up2_ne (fun c => hi.2.2.2 c.2.symm)⟩ rfl rfl rfl s7.2⟩
theorem sm_L {i : Nat} {v : Int64} (S : SM G q qv h) : SM G q qv (pL h 59 i v) := by
  obtain ⟨s1, s2, s3, s4, s5, s6, s7⟩ := S
  exact ⟨(sk_same rfl rfl rfl : Sk _ = Sk h) ▸ s1, s2, s3, pm_same rfl (fun _ _ => ⟨rfl, rfl⟩) s4, s5, s6, s7⟩
theorem sm_A {k : Nat} {f : Nat → Int32} (hk : 106 ≤ k) (S : SM G q qv h) : SM G q qv (pA h k f) := by
  obtain ⟨s1, s2, s3, s4, s5, s6, s7⟩ := S
  refine ⟨(sk_same rfl rfl rfl : Sk _ = Sk h) ▸ s1, s2, s3, pm_same (h := h) (g := pA h k f) rfl (fun j hj => ⟨up1_ne ?_, rfl⟩) s4, s5, s6, s7.1, kq_same (h := h) (g := pA h k f) ⟨rfl, rfl, rfl, rfl⟩ (up1_ne (by omega)) rfl rfl s7.2⟩
  rcases s4.1 with rfl | rfl <;> omega
theorem sm_B {k : Nat} {f : Nat → Int64} (hk : k ≠ 114 ∧ k ≠ 129) (S : SM G q qv h) : SM G q qv (pB h k f) := by
  obtain ⟨s1, s2, s3, s4, s5, s6, s7⟩ := S
  refine ⟨(sk_same rfl rfl rfl : Sk _ = Sk h) ▸ s1, s2, s3, pm_same (h := h) (g := pB h k f) rfl (fun _ _ => ⟨rfl, rfl⟩) s4, s5, s6, ?_, kq_same (h := h) (g := pB h k f) ⟨rfl, rfl, rfl, rfl⟩ rfl (up1_ne (Ne.symm hk.2)) rfl s7.2⟩
  have e : hB (pB h k f) 114 = hB h 114 := up1_ne (Ne.symm hk.1)
  rw [e]; exact s7.1
end REC
