/-! MACH: what holds of program and machine between two calls -/
/-- the pairs of a list of data, and the reference's data node by node from the last one on -/
def qLs (qv : Nat → Int64) : List Nat → List (Int64 × Int64) → Int64 × List (Int64 × Int64)
  | [], pa => (vof 4 0, pa)
  | c :: l, pa => (vof 6 (nI (qLs qv l pa).2.length), (qLs qv l pa).2 ++ [(qv c, (qLs qv l pa).1)])
def Dt1 (G : PG) (n : Nat) (qv : Nat → Int64) (pa : List (Int64 × Int64)) (v : Int64) (pa' : List (Int64 × Int64)) : Prop :=
  (G.1 21 n = 0 ∧ v = vof 1 (G.1 22 n) ∧ pa' = pa) ∨ (G.1 21 n = 1 ∧ v = vof 3 0 ∧ pa' = pa) ∨ (G.1 21 n = 2 ∧ v = vof 2 0 ∧ pa' = pa) ∨ (G.1 21 n = 3 ∧ v = vof 5 (G.1 22 n) ∧ pa' = pa) ∨ (G.1 21 n = 4 ∧ ∃ l, Chn G (G.1 24 n) l ∧ (v, pa') = qLs qv l pa)
def Qst (G : PG) : Nat → (Nat → Int64) → List (Int64 × Int64) → Prop
  | 0, qv, pa => pa = [] ∧ ∀ n, qv n = 0
  | j + 1, qv, pa => ∃ qv0 pa0 v, Qst G j qv0 pa0 ∧ Dt1 G (pNn G - (j + 1)) qv0 pa0 v pa ∧ qv = fun m => if m = pNn G - (j + 1) then v else qv0 m
def dat (G : PG) : List Int64 := (List.range (pDz G)).map (fun i => vof (G.1 3 i) (G.1 4 i))
/-- the stores as a run begins -/
def Q0 (G : PG) : Prop := ∃ qv pa, Qst G (pNn G) qv pa ∧ pa.length ≤ 6200 ∧ ∃ pm ty, Cor G qv pm [] ty [] [] [] (dat G) 0 (List.replicate 100 (vof 9 0)) [] [] pa (List.replicate (pDf G) (vof 9 0))
def PS (G : PG) : Prop := WG G ∧ (∃ l, Chn G (pF1 G) l ∧ Rwc G l 0) ∧ Q0 G
/-- which program is which, and the other references that vary -/
def Vs (p q : Nat) (h : Hp) : Prop := PgX p h ∧ PgM q h ∧ (hR h 39 3 = some 19 ∨ hR h 39 3 = some 29) ∧ (hR h 3 12 = some 1 ∨ hR h 3 12 = some 18) ∧ (hR h 47 2 = some 19 ∨ hR h 47 2 = some 29)
/-- rows of the reference that go together -/
def Rq (h : Hp) : Prop := (hN h 123 = hN h 122 ∧ hN h 124 = hN h 122) ∧ (hN h 120 = hN h 119 ∧ (hN h 119 = 4096 ∨ hN h 119 = 16384 ∨ hN h 119 = 65536 ∨ hN h 119 = 300000)) ∧ (hN h 121 = 1024 ∨ hN h 121 = 4096 ∨ hN h 121 = 16384 ∨ hN h 121 = 65536 ∨ hN h 121 = 262144) ∧ ∃ bu, bu ≤ 20000 ∧ hI h 59 61 = nI bu
/-- the reference's program and its quotes' values, whatever is behind them -/
def SM0 (G : PG) (q : Nat) (qv : Nat → Int64) (h : Hp) : Prop := Sk h ∧ Vy h ∧ Rm h ∧ PM G q h ∧ hR h 59 17 = some q ∧ hN h 114 = 6200 ∧ ∀ n, n < pNn G → hB h 114 n = qv n
/-- the class's machine but for its ports, the reference's likewise -/
def RWn (z : CSt) (h : Hp) : Prop := RXs z.2.1.2.2.2 z.1.2 h ∧ RXf z.1.1 z.2.1.1 z.2.1.2.1 z.2.1.2.2.1 h ∧ RXh z.2.2.1.1 z.2.2.1.2.1 z.2.2.1.2.2 h ∧ hI h 47 18 = nI z.2.2.2.2.2.1 ∧ hI h 47 16 = nI z.2.2.2.2.2.2.1 ∧ hL h 47 17 = z.2.2.2.2.2.2.2.1
def RZn (z : RSt) (h : Hp) : Prop := MXt z.1.2.2.1 h ∧ MXw z.1.2.2.2 h ∧ MXb z.2.1.1 z.2.1.2.1 z.2.1.2.2 z.2.2.1.1 z.2.2.1.2.1 h ∧ MXs z.2.2.1.2.2.1 z.2.2.1.2.2.2.1 z.2.2.1.2.2.2.2 h ∧ MXd z.2.2.2.2.2.1 z.2.2.2.2.2.2.1 z.2.2.2.2.2.2.2.1 z.2.2.2.2.2.2.2.2.1 z.2.2.2.2.2.2.2.2.2 h ∧ z.2.2.1.2.1.length + (kfl z.2.2.1.2.1).length ≤ z.2.2.1.2.2.2.1
/-- the two machines: what is alike in all states -/
def Mid (G : PG) (qv : Nat → Int64) (pm : List Nat) (pl : List (Nat × Nat)) (z : CSt) (y : RSt) : Prop :=
  (y.2.2.1.2.2.2.1 = z.2.2.1.2.1 ∧ y.2.2.2.2.2.1 = z.2.2.2.2.2.1 ∧ y.2.2.2.2.2.2.2.1 = z.2.2.2.2.2.2.1 ∧ y.2.2.2.2.2.2.1 = z.2.1.2.2.1.length) ∧ VR (Dv pm pl) z.2.2.2.2.2.2.2.1 y.2.2.2.2.2.2.2.2.1 ∧ ∃ ty s0 sh wk, Cor G qv pm pl ty s0 sh wk z.2.2.1.1 z.2.2.1.2.1 z.2.2.1.2.2 y.2.2.1.1 y.2.2.1.2.1 y.2.2.1.2.2.1 y.2.2.1.2.2.2.2
/-- the two machines go on together; the ports are another thing -/
def RlB (G : PG) (qv : Nat → Int64) (pm : List Nat) (pl : List (Nat × Nat)) (ph : Nat) : CSt → RSt → Prop
  | ((pc, s), (ba, se, bk, cap), (F, ce, gc), (_, _, th, st, lt, _)), ((md, nw, td, wk), (sl, bs, pr), (bx, ps, pa, ce', gr), (_, _, th', op, st', lt', _)) =>
    (ce' = ce ∧ th' = th ∧ st' = st) ∧ ∃ ty sh s0 S L shl sll shf slf, VR (Dv pm pl) lt lt' ∧ Cor G qv pm pl ty s0 sh wk F ce gc bx ps pa gr ∧ Env G pl S L shl sll shf slf sh ba se bk cap sl bs pr op ∧
    (MdF G pl ph pc s s0 bk cap md td S L shl sll ∨ MdV G (Dv pm pl) pl ph pc s s0 bk cap md nw td S L shl sll ∨ MdA G pl pc s s0 bk cap md td S L shl sll ∨ MdR G ph pc s bk md td wk S L shl sll)
def Live (G : PG) (qv : Nat → Int64) (pm : List Nat) (pl : List (Nat × Nat)) (z : CSt) (y : RSt) (h : Hp) : Prop := (∃ r, hI h 47 13 = nI r ∧ hI h 59 69 = nI r ∧ (r = 0 ∨ (11 ≤ r ∧ r ≤ 17))) ∨ ((hI h 47 13 = -1 ∨ ∃ r, 1 ≤ r ∧ r < 4 ∧ hI h 47 13 = nI r) ∧ hI h 59 69 = -1 ∧ MXc y.1.1 y.1.2.1 h ∧ ∃ ph, RlB G qv pm pl ph z y)
def MPr (G : PG) (p q : Nat) (qv : Nat → Int64) (pm : List Nat) (pl : List (Nat × Nat)) (z : CSt) (y : RSt) (h : Hp) : Prop := PS G ∧ SX G p h ∧ SM0 G q qv h ∧ RWn z h ∧ RZn y h ∧ hI h 47 13 = hI h 59 60 ∧ Mid G qv pm pl z y ∧ Live G qv pm pl z y h
def Mach (D : VD) (_k : Nat) (h : Hp) : Prop := Sk h ∧ Vy h ∧ Rm h ∧ Rq h ∧ ∃ p q, Vs p q h ∧ ((hI h 59 19 = 0 ∧ D = D0 ∧ Cn p q h ∧ St D0 h ∧ Pw D0 p q h) ∨ (hI h 59 19 = 1 ∧ ∃ G qv pm pl z y, D = Dv pm pl ∧ MPr G p q qv pm pl z y h))
section MCH
variable {h g : Hp} {G : PG} {p q : Nat} {qv : Nat → Int64} {pm : List Nat} {pl : List (Nat × Nat)} {z : CSt} {y : RSt} {D : VD} {k : Nat}
/-- the class's machine is alike in two heaps -/
def AgX (h g : Hp) : Prop := (hI g 47 = hI h 47 ∧ hI g 48 = hI h 48 ∧ hL g 47 = hL h 47) ∧ ∀ a, (a = 49 ∨ (53 ≤ a ∧ a ≤ 57)) → hA g a = hA h a ∧ hB g a = hB h a ∧ hN g a = hN h a
def AgM (h g : Hp) : Prop := (∀ i, i ≠ 1 → i ≠ 55 → i ≠ 57 → hI g 59 i = hI h 59 i) ∧ (∀ i, i ≠ 63 → hL g 59 i = hL h 59 i) ∧ ∀ a, 112 ≤ a → a ≤ 126 → hA g a = hA h a ∧ hB g a = hB h a ∧ hN g a = hN h a
theorem rwn_ag (e : AgX h g) (r : RWn z h) : RWn z g := by
  obtain ⟨⟨e1, e2, e3⟩, e4⟩ := e
  have a49 := e4 49 (Or.inl rfl)
  have a53 := e4 53 (Or.inr ⟨by decide, by decide⟩)
  have a54 := e4 54 (Or.inr ⟨by decide, by decide⟩)
  have a55 := e4 55 (Or.inr ⟨by decide, by decide⟩)
  have a56 := e4 56 (Or.inr ⟨by decide, by decide⟩)
  have a57 := e4 57 (Or.inr ⟨by decide, by decide⟩)
  unfold RWn RXs RXf RXh at r ⊢
  rw [e1, e2, e3, a49.2.1, a49.2.2, a53.2.1, a53.2.2, a54.1, a54.2.2, a55.1, a55.2.2, a56.1, a56.2.2, a57.2.1, a57.2.2]
  exact r
theorem mxc_ag {md : Option Nat} {nw : Int64} (e : AgM h g) (r : MXc md nw h) : MXc md nw g := by
  unfold MXc at r ⊢
  rw [e.2.1 65 (by decide), e.1 66 (by decide) (by decide) (by decide), e.1 67 (by decide) (by decide) (by decide)]
  exact r
theorem rzn_ag (e : AgM h g) (r : RZn y h) : RZn y g := by
  obtain ⟨e1, e2, e3⟩ := e
  have q112 := e3 112 (by decide) (by decide)
  have q113 := e3 113 (by decide) (by decide)
  have q116 := e3 116 (by decide) (by decide)
  have q117 := e3 117 (by decide) (by decide)
  have q118 := e3 118 (by decide) (by decide)
  have q119 := e3 119 (by decide) (by decide)
  have q120 := e3 120 (by decide) (by decide)
  have q121 := e3 121 (by decide) (by decide)
  have q122 := e3 122 (by decide) (by decide)
  have q123 := e3 123 (by decide) (by decide)
  have q124 := e3 124 (by decide) (by decide)
  have q125 := e3 125 (by decide) (by decide)
  have q126 := e3 126 (by decide) (by decide)
  obtain ⟨r1, r2, r3, r4, r5, r6⟩ := r
  refine ⟨?_, ?_, ?_, ?_, ?_, r6⟩
  · unfold MXt at r1 ⊢; rw [e1 50 (by decide) (by decide) (by decide), q122.1, q122.2.2, q123.1, q123.2.2, q124.1, q124.2.2]; exact r1
  · unfold MXw at r2 ⊢; rw [e1 52 (by decide) (by decide) (by decide), q125.2.1, q125.2.2]; exact r2
  · unfold MXb Bxs at r3 ⊢
    rw [e1 44 (by decide) (by decide) (by decide), e1 45 (by decide) (by decide) (by decide), e1 46 (by decide) (by decide) (by decide), e1 37 (by decide) (by decide) (by decide), e1 38 (by decide) (by decide) (by decide), e1 42 (by decide) (by decide) (by decide), q121.1, q121.2.2, q116.1, q116.2.2, q117.1, q117.2.2, q118.1, q118.2.2, q119.2.1, q119.2.2, q120.1, q120.2.2]; exact r3
  · unfold MXs at r4 ⊢; rw [e1 31 (by decide) (by decide) (by decide), e1 39 (by decide) (by decide) (by decide), q112.2.1, q112.2.2, q113.2.1, q113.2.2, q126.2.1, q126.2.2]; exact r4
  · unfold MXd at r5 ⊢; rw [e1 58 (by decide) (by decide) (by decide), e1 59 (by decide) (by decide) (by decide), e1 61 (by decide) (by decide) (by decide), e2 62 (by decide), e2 64 (by decide)]; exact r5
theorem meq_x (m : MEq h g) : AgX h g := by
  obtain ⟨m1, m2, m3, m4, m5, m6, m7, m8, m9⟩ := m
  refine ⟨⟨?_, ?_, ?_⟩, fun a ha => ⟨m9 a (by omega) (by omega) (by omega) (by omega) (by omega) (by omega), m7 a (by omega) (by omega), by rw [m3]⟩⟩
  · funext b; exact m8 47 b (by omega) (by omega) (by omega)
  · funext b; exact m8 48 b (by omega) (by omega) (by omega)
  · funext b; exact m6 47 b (by omega) (by omega)
theorem meq_m (m : MEq h g) : AgM h g := by
  obtain ⟨m1, m2, m3, m4, m5, m6, m7, m8, m9⟩ := m
  exact ⟨fun i h1 h2 h3 => m8 59 i (by omega) (by omega) (by omega), fun i h1 => m6 59 i (by omega) (by omega), fun a h1 h2 => ⟨m9 a (by omega) (by omega) (by omega) (by omega) (by omega) (by omega), m7 a (by omega) (by omega), by rw [m3]⟩⟩
theorem meq_sx (m : MEq h g) (s : SX G p h) : SX G p g := by
  obtain ⟨s1, s2, s3, s4, s5, s6⟩ := s
  obtain ⟨m1, m2, m3, m4, m5, m6, m7, m8, m9⟩ := m
  have hp : p = 19 ∨ p = 29 := s4.1
  refine ⟨(sk_same m1 m2 m4 : Sk _ = Sk h) ▸ s1, by unfold Vy; rw [m2]; exact s2, rm_same m3 m4 m5 s3, px_same (funext fun b => m8 p b (by omega) (by omega) (by omega)) (fun j hj => ⟨m9 _ (by omega) (by omega) (by omega) (by omega) (by omega) (by omega), by rw [m3], m7 _ (by omega) (by omega)⟩) s4, by rw [m2]; exact s5, s6⟩
theorem meq_sm (m : MEq h g) (s : SM0 G q qv h) : SM0 G q qv g := by
  obtain ⟨s1, s2, s3, s4, s5, s6, s7⟩ := s
  obtain ⟨m1, m2, m3, m4, m5, m6, m7, m8, m9⟩ := m
  have hp : q = 66 ∨ q = 86 := s4.1
  refine ⟨(sk_same m1 m2 m4 : Sk _ = Sk h) ▸ s1, by unfold Vy; rw [m2]; exact s2, rm_same m3 m4 m5 s3, pm_same (funext fun b => m8 q b (by omega) (by omega) (by omega)) (fun j hj => ⟨m9 _ (by omega) (by omega) (by omega) (by omega) (by omega) (by omega), by rw [m3]⟩) s4, by rw [m2]; exact s5, by rw [m3]; exact s6, by rw [m7 114 (by decide) (by decide)]; exact s7⟩
theorem vs_same (e : hR g = hR h) (v : Vs p q h) : Vs p q g := by
  unfold Vs PgX PgM at v ⊢
  rw [e]; exact v
theorem rq_same (e : hN g = hN h) (e2 : hI g 59 61 = hI h 59 61) (r : Rq h) : Rq g := by
  unfold Rq at r ⊢
  rw [e, e2]; exact r
theorem vs_p (v : Vs p q h) : (p = 19 ∨ p = 29) ∧ (q = 66 ∨ q = 86) := by
  obtain ⟨v1, v2, _⟩ := v
  rcases v1 with ⟨e, _⟩ | ⟨e, _⟩ <;> rcases v2 with ⟨e2, _⟩ | ⟨e2, _⟩ <;> simp [e, e2]
theorem live_ag (e1 : AgX h g) (e2 : AgM h g) (l : Live G qv pm pl z y h) : Live G qv pm pl z y g := by
  have a13 : hI g 47 13 = hI h 47 13 := by rw [e1.1.1]
  have a69 : hI g 59 69 = hI h 59 69 := e2.1 69 (by decide) (by decide) (by decide)
  unfold Live at l ⊢
  rw [a13, a69]
  rcases l with l | ⟨l1, l2, l3, l4⟩
  · exact Or.inl l
  · exact Or.inr ⟨l1, l2, mxc_ag e2 l3, l4⟩
theorem mach_com : CoM Mach := by
  intro D k h g m H
  have mx := meq_x m
  have mm := meq_m m
  obtain ⟨s, v, r, rq, p, q, vs, H⟩ := H
  obtain ⟨hp, hq⟩ := vs_p vs
  have m0 := m
  obtain ⟨m1, m2, m3, m4, m5, m6, m7, m8, m9⟩ := m
  have e19 : hI g 59 19 = hI h 59 19 := m8 59 19 (by omega) (by omega) (by omega)
  have a112 := mm.2.2 112 (by decide) (by decide)
  have a113 := mm.2.2 113 (by decide) (by decide)
  have a116 := mm.2.2 116 (by decide) (by decide)
  have a49 := mx.2 49 (Or.inl rfl)
  refine ⟨(sk_same m1 m2 m4 : Sk _ = Sk h) ▸ s, by unfold Vy; rw [m2]; exact v, rm_same m3 m4 m5 r, rq_same m3 (m8 59 61 (by omega) (by omega) (by omega)) rq, p, q, vs_same m2 vs, ?_⟩
  rcases H with ⟨n0, hD, cn, st, pw⟩ | ⟨n0, G, qv, pm, pl, z, y, hD, ps, sx, sm, rw', rz, ea, mid, lv⟩
  · refine Or.inl ⟨by rw [e19]; exact n0, hD, ?_, ?_, ?_⟩
    · unfold Cn at cn ⊢
      have i1 : ∀ b, hI g p b = hI h p b := fun b => m8 p b (by omega) (by omega) (by omega)
      have i2 : ∀ b, hI g q b = hI h q b := fun b => m8 q b (by omega) (by omega) (by omega)
      have i3 : ∀ b, b ≠ 1 → b ≠ 55 → b ≠ 57 → hI g 59 b = hI h 59 b := fun b h1 h2 h3 => m8 59 b (by omega) (by omega) (by omega)
      rw [e19, i1, i1, i1, i2, i2, i2, mx.1.1, mx.1.2.1, i3 58 (by decide) (by decide) (by decide), i3 60 (by decide) (by decide) (by decide), i3 39 (by decide) (by decide) (by decide), i3 59 (by decide) (by decide) (by decide), m6 59 62 (by omega) (by omega)]
      exact cn
    · unfold St at st ⊢
      rw [mx.1.2.1, a49.2.1, a49.2.2, a112.2.1, a112.2.2, a113.2.1, a113.2.2]
      exact st
    · unfold Pw at pw ⊢
      have i1 : hI g p 12 = hI h p 12 := m8 p 12 (by omega) (by omega) (by omega)
      have i5 : hA g (p + 5) = hA h (p + 5) := m9 _ (by omega) (by omega) (by omega) (by omega) (by omega) (by omega)
      have i15 : hA g (q + 15) = hA h (q + 15) := m9 _ (by omega) (by omega) (by omega) (by omega) (by omega) (by omega)
      rw [mx.1.2.1, m3, i1, a49.2.1, a116.1, i5, i15]
      exact pw
  · refine Or.inr ⟨by rw [e19]; exact n0, G, qv, pm, pl, z, y, hD, ps, meq_sx m0 sx, meq_sm m0 sm, rwn_ag mx rw', rzn_ag mm rz, ?_, mid, live_ag mx mm lv⟩
    rw [mx.1.1, mm.1 60 (by decide) (by decide) (by decide)]; exact ea
theorem dv_pm {i a : Nat} (e : pm[i]? = some a) : (Dv pm pl).1 i = a := by
  show pm.getD i 20000000 = a
  rw [List.getD_eq_getElem?_getD, e]; rfl
theorem dv_pl {i : Nat} {a : Nat × Nat} (e : pl[i]? = some a) : (Dv pm pl).2.1 i = a.1 := by
  show (pl.getD i (20000000, 0)).1 = a.1
  rw [List.getD_eq_getElem?_getD, e]; rfl
theorem mach_mas : MaS Mach := by
  intro D k h H
  obtain ⟨s, v, r, rq, p, q, vs, H⟩ := H
  obtain ⟨hp, hq⟩ := vs_p vs
  obtain ⟨pgx, pgm, _⟩ := id vs
  have n126 : hN h 126 = 3000 := r.1.2 (126, 3000) (by decide)
  refine ⟨?_, ⟨p, q, pgx, pgm, ?_, n126, fun n1 => ?_, ?_⟩, rm_fin r⟩
  · rcases H with ⟨n0, rfl, cn, st, pw⟩ | ⟨n0, G, qv, pm, pl, z, y, rfl, ps, sx, sm, ⟨w1, w2, ⟨f1, f2, f3, f4, f5, f6, f7, f8, f9⟩, w4⟩, ⟨z1, z2, z3, ⟨g1, g2, g3, g4, g5, g6, g7, g8, g9, g10⟩, z5⟩, ea, ⟨⟨d1, d2, d3, d4⟩, vr, ty, s0, sh, wk, cor⟩, lv⟩
    · exact st
    · obtain ⟨c1, c2, c3, c4, c5, c6, c7, ⟨u1, u2, u3, u4, u5, u6, u7⟩⟩ := cor
      have hpl : pm.length ≤ 46200 := by omega
      refine ⟨_, f1, f2, by omega, fun i h1 h2 => ?_, by show pm.length ≤ hN h 112; rw [g2]; exact hpl, by show pm.length ≤ hN h 113; rw [g3]; exact hpl⟩
      obtain ⟨a, ea'⟩ := g_some (show i < pm.length from h1)
      have e1 := dv_pm (pl := pl) ea'
      rw [e1] at h2 ⊢
      obtain ⟨t1, t2, x, x', u, u', b1, b2, b3, b4, b5⟩ := c1 i a ea' h2
      obtain ⟨k1, k2⟩ := g5 i u u' b3
      refine ⟨g_lt b2, ?_, ?_⟩
      · rw [f4 a x b1, k1]; exact b4
      · rw [f4 (a + 1) x' b2, k2]; exact b5
  · rcases H with ⟨n0, rfl, cn, st, pw⟩ | ⟨n0, G, qv, pm, pl, z, y, rfl, ps, sx, sm, ⟨w1, w2, ⟨f1, f2, f3, f4, f5, f6, f7, f8, f9⟩, w4, w5, w6⟩, ⟨z1, z2, z3, ⟨g1, g2, g3, g4, g5, g6, g7, g8, g9, g10⟩, ⟨t1, t2, t3, t4, t5, t6, t7⟩, z6⟩, ea, ⟨⟨d1, d2, d3, d4⟩, vr, ty, s0, sh, wk, cor⟩, lv⟩
    · exact cn
    · have px := sx.2.2.2.1
      have pm' := sm.2.2.2.1
      refine ⟨fun c => absurd (n0.symm.trans c) (by decide), fun _ => ⟨?_, ?_, ?_, ?_, ea⟩, ?_, ?_, ?_⟩
      · rw [px.2.2.2.2.2.2.2.2.2.2.2.2.2.1, pm'.2.2.2.2.2.2.2.2.2.2.2.2.1]
      · rw [w4, t1, d2]
      · rw [px.2.2.2.2.2.2.2.2.2.1, pm'.2.2.2.2.2.2.2.2.2.2.1]
      · rw [px.2.2.2.2.2.1, pm'.2.2.2.2.2.2.2.2.2.2.2.2.2.2]
      · rw [f5, g6, d1]
      · rw [w2.2.2.2.1, t2, d4]
      · rw [w5, t4, d3]
        exact Int64.toInt32_ofNat'.symm
  · rcases H with ⟨n0, rfl, cn, st, pw⟩ | ⟨n0, G, qv, pm, pl, z, y, rfl, ps, sx, sm, ⟨w1, w2, ⟨f1, f2, f3, f4, f5, f6, f7, f8, f9⟩, w4⟩, ⟨z1, z2, z3, ⟨g1, g2, g3, g4, g5, g6, g7, g8, g9, g10⟩, z5⟩, ea, ⟨⟨d1, d2, d3, d4⟩, vr, ty, s0, sh, wk, cor⟩, lv⟩
    · exact absurd n0 n1
    · have px := sx.2.2.2.1
      have pm' := sm.2.2.2.1
      obtain ⟨c1, c2, c3, c4, c5, ⟨k1, k2, k3, k4⟩, c7, c8⟩ := cor
      refine ⟨f7, g8, pDf G, k3, px.2.2.2.2.2.2.2.2.2.1, pm'.2.2.2.2.2.2.2.2.2.2.1, fun i hi => ?_⟩
      obtain ⟨x, w, e1, e2, e3⟩ := k4 i hi
      rw [f9 i x e1, g10 i w e2]
      rcases e3 with e3 | ⟨rfl, rfl⟩
      · exact Or.inr e3
      · exact Or.inl ⟨vof_kd _ _, rfl⟩
  · rcases H with ⟨n0, rfl, cn, st, pw⟩ | ⟨n0, G, qv, pm, pl, z, y, rfl, ps, sx, sm, ⟨w1, w2, ⟨f1, f2, f3, f4, f5, f6, f7, f8, f9⟩, w4⟩, ⟨z1, z2, ⟨_, ⟨m8, m9, m10, m11, m12, m13, m14, m15⟩, _⟩, ⟨g1, g2, g3, g4, g5, g6, g7, g8, g9, g10⟩, z5⟩, ea, ⟨⟨d1, d2, d3, d4⟩, vr, ty, s0, sh, wk, cor⟩, lv⟩
    · exact pw
    · have px := sx.2.2.2.1
      have pm' := sm.2.2.2.1
      have hW := ps.1
      obtain ⟨c1, c2, c3, c4, c5, c6, c7, ⟨u1, u2, u3, u4, u5, u6, u7⟩⟩ := cor
      have n5 : hN h (p + 5) = 120 := px.2.2.2.2.2.2.1 5 (by decide) (by decide)
      have n15 : hN h (q + 15) = 3000 := pm'.2.2.2.2.2.1 15 (by decide) (by decide)
      have hlm := hW.2.2.2.1
      refine ⟨_, pLm G, f1, f2, by omega, px.2.2.2.2.2.1, hlm, by rw [n5]; exact hlm, by show pl.length ≤ hN h 116; rw [m10]; omega, fun i hi => ?_⟩
      obtain ⟨a, ea'⟩ := g_some (show i < pl.length from hi)
      obtain ⟨b, L⟩ := a
      have e1 := dv_pl (pm := pm) ea'
      rw [e1]
      obtain ⟨l1, l2, l3, l4, ks, l5, _⟩ := c2 i b L ea'
      obtain ⟨k1, k2, k3, k4, _⟩ := px.2.2.2.2.2.2.2.1 L l1 l2
      obtain ⟨j1, j2, _⟩ := pm'.2.2.2.2.2.2.1 L l1 l2
      refine ⟨g_lt l4, L - 1, L, by omega, by rw [n15]; omega, by omega, ?_, (m15 i L ks l5).1, by rw [k2, j2]⟩
      rw [f4 b _ l4]
      exact i64_32 _
end MCH
