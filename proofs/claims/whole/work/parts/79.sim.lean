/-! THE TWO MACHINES GO TOGETHER -/
def bks (G : PG) : List BK → Nat
  | [] => 0
  | b :: l => (pCz G + 1 - b.1) + bks G l
def mu (G : PG) (pc : Nat) (bk : List BK) (lf : Nat) : Nat := (pCz G + 1 - pc) + bks G bk + lf * (pCz G + 2)
def mz (G : PG) (z : CSt) : Nat := mu G z.1.1 z.2.1.2.2.1 z.2.2.2.2.2.2.2.2
/-- a form is to be worked -/
def MdF (G : PG) (pl : List (Nat × Nat)) (ph pc : Nat) (s s0 : List Int64) (bk : List BK) (cap : Nat) (md : Option Nat) (td : List TD) (S : Shp) (L : Nat) (shl sll : List Nat) : Prop :=
  ∃ n f la ex, md = some n ∧ s = s0 ∧ Cod G L f n la S pc ex ∧ Fvq f td la ∧ f ≤ ph ∧ Kn G pl cap td la ex S L bk shl sll
/-- a value is there -/
def MdV (G : PG) (D : VD) (pl : List (Nat × Nat)) (ph pc : Nat) (s s0 : List Int64) (bk : List BK) (cap : Nat) (md : Option Nat) (nw : Int64) (td : List TD) (S : Shp) (L : Nat) (shl sll : List Nat) : Prop :=
  ∃ v, md = none ∧ s = s0 ++ [v] ∧ VR D v nw ∧ S.length < pDm G L ∧ 100 ≤ ph ∧ Kn G pl cap td false pc S L bk shl sll
/-- a call that was held up -/
def MdA (G : PG) (pl : List (Nat × Nat)) (pc : Nat) (s s0 : List Int64) (bk : List BK) (cap : Nat) (md : Option Nat) (td : List TD) (S : Shp) (L : Nat) (shl sll : List Nat) : Prop :=
  md = none ∧ s = s0 ∧ ∃ i c l S0 la td', td = (10, nI i, 0) :: td' ∧ i < pNn G ∧ Chn G (G.1 24 i) (c :: l) ∧ l.length ≤ 8 ∧ S = S0 ++ List.replicate (l.length + 1) none ∧ G.1 1 pc = (if la then 33 else 32) ∧ G.1 2 pc = nI l.length ∧ S0.length < pDm G L ∧ nr td' la ∧ Kn G pl cap td' la (pc + 1) S0 L bk shl sll
/-- nothing has been worked yet -/
def MdR (G : PG) (ph pc : Nat) (s : List Int64) (bk : List BK) (md : Option Nat) (td : List TD) (wk : List Int64) (S : Shp) (L : Nat) (shl sll : List Nat) : Prop :=
  md = none ∧ s = [] ∧ wk = [] ∧ S = [] ∧ L = 0 ∧ bk = [] ∧ shl = [] ∧ sll = [] ∧ 150 ≤ ph ∧ ∃ n l, td = [(9, n, 0)] ∧ Chn G n l ∧ Rwc G l pc
def Rel (G : PG) (qv : Nat → Int64) (ph : Nat) : CSt → RSt → Prop
  | ((pc, s), (ba, se, bk, cap), (F, ce, gc), (inp, out, th, st, lt, lf)), ((md, nw, td, wk), (sl, bs, pr), (bx, ps, pa, ce', gr), (inp', out', th', op, st', lt', bu)) =>
    (ce' = ce ∧ inp' = inp ∧ out' = out ∧ th' = th ∧ st' = st ∧ bu = lf ∧ out.length ≤ 1000) ∧ ∃ pm pl ty sh s0 S L shl sll shf slf, VR (Dv pm pl) lt lt' ∧ Cor G qv pm pl ty s0 sh wk F ce gc bx ps pa gr ∧ Env G pl S L shl sll shf slf sh ba se bk cap sl bs pr op ∧
    (MdF G pl ph pc s s0 bk cap md td S L shl sll ∨ MdV G (Dv pm pl) pl ph pc s s0 bk cap md nw td S L shl sll ∨ MdA G pl pc s s0 bk cap md td S L shl sll ∨ MdR G ph pc s bk md td wk S L shl sll)
/-- the answer r: what is left -/
def Fnl (G : PG) (qv : Nat → Int64) (r : Nat) : CSt → RSt → Prop
  | z@((_, _), (_, _, bk, _), (F, ce, gc), (inp, out, th, st, lt, _)), y@((_, _, _, _), _, (bx, ps, pa, ce', gr), (inp', out', th', op, st', lt', _)) =>
    (ce' = ce ∧ inp' = inp ∧ out' = out ∧ th' = th ∧ st' = st ∧ op = bk.length ∧ out.length ≤ 1000) ∧ (∃ pm pl ty s0 sh wk, VR (Dv pm pl) lt lt' ∧ Cor G qv pm pl ty s0 sh wk F ce gc bx ps pa gr) ∧ ((r = 0 ∨ 10 < r ∧ r < 18) ∨ ((r = 1 ∨ r = 2 ∨ r = 3) ∧ Rel G qv 0 z y))
def Gol (G : PG) (qv : Nat → Int64) (a : Nat) (z : CSt) (y : RSt) : Prop := ∃ n m r z' y', n ≤ a ∧ CSs G n z r z' ∧ RSs G qv m y r y' ∧ Fnl G qv r z' y'
theorem g_c {G : PG} {qv : Nat → Int64} {a j : Nat} {z z1 : CSt} {y : RSt} (h : CS1 G j z z1) (q : Gol G qv a z1 y) : Gol G qv (a + 1) z y := by
  obtain ⟨n, m, r, z', y', q1, q2, q3, q4⟩ := q
  exact ⟨n + 1, m, r, z', y', by omega, Or.inr ⟨j, z1, h, q2⟩, q3, q4⟩
theorem g_r {G : PG} {qv : Nat → Int64} {a j : Nat} {z : CSt} {y y1 : RSt} (h : RS1 G qv j y y1) (q : Gol G qv a z y1) (hb : Bnd y := by assumption) : Gol G qv a z y := by
  obtain ⟨n, m, r, z', y', q1, q2, q3, q4⟩ := q
  exact ⟨n, m + 1, r, z', y', q1, q2, ⟨hb, Or.inr ⟨j, y1, h, q3⟩⟩, q4⟩
theorem g_e {G : PG} {qv : Nat → Int64} {a j j' r : Nat} {z : CSt} {y y' : RSt} (h : CE1 G j z r) (h' : RE1 G j' y r y') (q : Fnl G qv r z y') (hb : Bnd y := by assumption) : Gol G qv (a + 1) z y :=
  ⟨1, 1, r, z, y', by omega, Or.inl ⟨rfl, j, h⟩, ⟨hb, Or.inl ⟨j', h'⟩⟩, q⟩
theorem g_w {G : PG} {qv : Nat → Int64} {a b : Nat} {z : CSt} {y : RSt} (q : Gol G qv a z y) (h : a ≤ b) : Gol G qv b z y := by
  obtain ⟨n, m, r, z', y', q1, q2⟩ := q
  exact ⟨n, m, r, z', y', by omega, q2⟩
def IHy (G : PG) (qv : Nat → Int64) (N : Nat) : Prop := ∀ ph z y, Rel G qv ph z y → mz G z * 200 + ph < N → Gol G qv (mz G z + 1) z y
/-- one turn of the class, then on -/
theorem g_ci {G : PG} {qv : Nat → Int64} {N j ph : Nat} {z z1 : CSt} {y : RSt} (hI : IHy G qv N) (h : CS1 G j z z1) (hm : mz G z1 < mz G z) (hN : mz G z * 200 ≤ N) (hp : ph < 200) (q : Rel G qv ph z1 y) : Gol G qv (mz G z + 1) z y :=
  g_w (g_c h (hI ph z1 y q (by omega))) (by omega)
theorem cod_pc {G : PG} {L f n : Nat} {la : Bool} {S : Shp} {pc e : Nat} (h : Cod G L f n la S pc e) : n < pNn G ∧ S.length < pDm G L ∧ pc < e ∧ e ≤ pCz G ∧ 0 < f := by
  cases f with
  | zero => exact h.elim
  | succ f => exact ⟨h.1, h.2.1, h.2.2.1, h.2.2.2.1, by omega⟩
theorem mz_pc {G : PG} {pc pc' : Nat} {bk : List BK} {lf : Nat} (h : pc < pc') (h2 : pc ≤ pCz G) : mu G pc' bk lf < mu G pc bk lf := by
  unfold mu
  omega
theorem op_lt {G : PG} (hW : WG G) {pc : Nat} {x : Int32} (h : G.1 1 pc = x) (hx : x ≠ 36) : pc < pCz G := by
  rcases Nat.lt_or_ge pc (pCz G) with c | c
  · exact c
  · exact absurd (h.symm.trans (hW.1 pc c)) hx
theorem wks_le {D : VD} : ∀ {s : List Int64} {sh : List Nat} {wk : List Int64}, Wks D s sh wk → wk.length ≤ s.length
  | [], [], wk, h => by have h : wk = [] := h; simp [h]
  | _ :: _, _ :: _, _, h => by
    rcases h with ⟨_, w, wk', rfl, _, h⟩ | ⟨_, h⟩
    · have := wks_le h; simp; omega
    · have := wks_le h; simp; omega
  | [], _ :: _, _, h => h.elim
  | _ :: _, [], _, h => h.elim
theorem rel_bnd {G : PG} {qv : Nat → Int64} (hW : WG G) {ph : Nat} {z : CSt} {y : RSt} (h : Rel G qv ph z y) : Bnd y := by
  obtain ⟨⟨pc, s⟩, ⟨ba, se, bk, cap⟩, ⟨F, ce, gc⟩, ⟨inp, out, th, st, lt, lf⟩⟩ := z
  obtain ⟨⟨md, nw, td, wk⟩, ⟨sl, bs, pr⟩, ⟨bx, ps, pa, ce', gr⟩, ⟨inp', out', th', op, st', lt', bu⟩⟩ := y
  obtain ⟨_, pm, pl, ty, sh, s0, S, L, shl, sll, shf, slf, hv, cor, env, h⟩ := h
  have hpl : ∀ i a L : Nat, pl[i]? = some (a, L) → L ≤ pLm G := fun i a L e => (cor.2.1 i a L e).2.1
  have hl := env_len env
  have hsl := wks_len cor.2.2.2.2.1
  have hwk := wks_le cor.2.2.2.2.1
  obtain ⟨n1, n2, n3, n4, n5, n6, n7, n8, n9, n10, n11, n12⟩ := env
  have hb := hW.2.2.2.2.2.1 L n12
  have fin : shl.length ≤ 301 * bk.length → sll.length ≤ 250 * bk.length → td.length ≤ 41 + 41 * bk.length → Bnd ((md, nw, td, wk), (sl, bs, pr), (bx, ps, pa, ce', gr), (inp', out', th', op, st', lt', bu)) := fun g1 g2 g3 => by
    refine ⟨show td.length ≤ 44000 by omega, show wk.length ≤ 304000 by omega, ?_⟩
    show sl.length ≤ 251000
    rw [n2, List.length_append, n7]
    omega
  rcases h with ⟨n, f, la, ex, rfl, rfl, h1, h2, h3, h4⟩ | ⟨v, rfl, rfl, h1, h2, h3, h4⟩ | ⟨rfl, rfl, i, c, l, S0, la, td', rfl, h1, h2, h3, rfl, h4, h5, h6, h7, h8⟩ | ⟨rfl, rfl, rfl, rfl, rfl, rfl, rfl, rfl, h1, n, l, rfl, h2, h3⟩
  · obtain ⟨g1, g2, g3, g4⟩ := kn_sz hW hpl h4
    exact fin g1 g2 (by omega)
  · obtain ⟨g1, g2, g3, g4⟩ := kn_sz hW hpl h4
    exact fin g1 g2 (by omega)
  · obtain ⟨g1, g2, g3, g4⟩ := kn_sz hW hpl h8
    exact fin g1 g2 (by simp only [List.length_cons]; omega)
  · exact fin (by simp) (by simp) (by simp)
