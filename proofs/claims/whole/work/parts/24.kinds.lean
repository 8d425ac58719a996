/-! a row for each instruction: from the state at it to the state behind it -/
theorem vIsI_i {v : Value} : vIsI v ↔ ∃ a, v = .int a := by
  cases v <;> simp [vIsI]
theorem vIsL_i {v : Value} : vIsL v ↔ ∃ a, v = .long a := by
  cases v <;> simp [vIsL]
theorem vIsR_i {v : Value} : vIsR v ↔ ∃ a : Nat, v = .ref a := by
  cases v <;> simp [vIsR]
theorem lgv_get {L : ALS} {k : Nat} {v : Value} (h : lget L k = some v) : lgv L k = v := by
  induction L with
  | nil => cases h
  | cons q t ih =>
    unfold lget at h
    unfold lgv
    split
    · rename_i e
      rw [if_pos e] at h
      exact Option.some.inj h
    · rename_i e
      rw [if_neg e] at h
      exact ih h
theorem lget_of {L : ALS} {k : Nat} {v : Value} (h : lgv L k = v) (hn : v ≠ .null) : lget L k = some v := by
  rw [← h]; exact lget_lgv (by rw [h]; exact hn)
section KND
variable {d mi pc : Nat} {L : ALS} {st : List Value} {h : Hp} {Q : Option Value → Hp → Prop} {x : MI}
-- stack
theorem k_i2 (hx : mInfo mi = some x) {i : Instr} (hd : decode x.2.1 pc = .ok (i, 1)) (hc : cls i = 1) (f : Int32 → Int32 → Int32) (hs : ∀ st, sA i st = iBin f st) (hsx : ∀ st, sX mi pc x.2.2.2.2.1 i st h = none) {v w : Value} : aWP d mi pc L (v :: w :: st) h Q ↔ (vIsI v ∧ vIsI w) ∧ aWP d mi (pc + 1) L (.int (f (vOI w) (vOI v)) :: st) h Q := by
  rw [wp_A hx hd hc (hsx _)]
  constructor
  · rintro ⟨st', h1, h2⟩
    rw [hs] at h1
    obtain ⟨a, b, r, e1, rfl⟩ := iBin_s h1
    cases e1
    exact ⟨⟨trivial, trivial⟩, h2⟩
  · rintro ⟨⟨h1, h2⟩, h3⟩
    obtain ⟨a, rfl⟩ := vIsI_i.mp h1
    obtain ⟨b, rfl⟩ := vIsI_i.mp h2
    exact ⟨_, by rw [hs]; rfl, h3⟩
theorem k_dv (hx : mInfo mi = some x) {i : Instr} (hd : decode x.2.1 pc = .ok (i, 1)) (hc : cls i = 1) (f : Int32 → Int32 → Int32) (hs : ∀ st, sA i st = iDiv f st) (hsx : ∀ st, sX mi pc x.2.2.2.2.1 i st h = none) {v w : Value} : aWP d mi pc L (v :: w :: st) h Q ↔ (vIsI v ∧ vIsI w ∧ ¬ vOI v = 0) ∧ aWP d mi (pc + 1) L (.int (f (vOI w) (vOI v)) :: st) h Q := by
  rw [wp_A hx hd hc (hsx _)]
  constructor
  · rintro ⟨st', h1, h2⟩
    rw [hs] at h1
    obtain ⟨a, b, r, e1, rfl, hne⟩ := iDiv_s h1
    cases e1
    exact ⟨⟨trivial, trivial, hne⟩, h2⟩
  · rintro ⟨⟨h1, h2, hne⟩, h3⟩
    obtain ⟨a, rfl⟩ := vIsI_i.mp h1
    obtain ⟨b, rfl⟩ := vIsI_i.mp h2
    exact ⟨_, by rw [hs]; unfold iDiv; exact if_neg hne, h3⟩
theorem k_l2 (hx : mInfo mi = some x) {i : Instr} (hd : decode x.2.1 pc = .ok (i, 1)) (hc : cls i = 1) (f : Int64 → Int64 → Int64) (hs : ∀ st, sA i st = lBin f st) (hsx : ∀ st, sX mi pc x.2.2.2.2.1 i st h = none) {v w : Value} : aWP d mi pc L (v :: w :: st) h Q ↔ (vIsL v ∧ vIsL w) ∧ aWP d mi (pc + 1) L (.long (f (vOL w) (vOL v)) :: st) h Q := by
  rw [wp_A hx hd hc (hsx _)]
  constructor
  · rintro ⟨st', h1, h2⟩
    rw [hs] at h1
    obtain ⟨a, b, r, e1, rfl⟩ := lBin_s h1
    cases e1
    exact ⟨⟨trivial, trivial⟩, h2⟩
  · rintro ⟨⟨h1, h2⟩, h3⟩
    obtain ⟨a, rfl⟩ := vIsL_i.mp h1
    obtain ⟨b, rfl⟩ := vIsL_i.mp h2
    exact ⟨_, by rw [hs]; rfl, h3⟩
theorem k_ls (hx : mInfo mi = some x) {i : Instr} (hd : decode x.2.1 pc = .ok (i, 1)) (hc : cls i = 1) (f : Int64 → Int32 → Int64) (hs : ∀ st, sA i st = lSh f st) (hsx : ∀ st, sX mi pc x.2.2.2.2.1 i st h = none) {v w : Value} : aWP d mi pc L (v :: w :: st) h Q ↔ (vIsI v ∧ vIsL w) ∧ aWP d mi (pc + 1) L (.long (f (vOL w) (vOI v)) :: st) h Q := by
  rw [wp_A hx hd hc (hsx _)]
  constructor
  · rintro ⟨st', h1, h2⟩
    rw [hs] at h1
    obtain ⟨a, b, r, e1, rfl⟩ := lSh_s h1
    cases e1
    exact ⟨⟨trivial, trivial⟩, h2⟩
  · rintro ⟨⟨h1, h2⟩, h3⟩
    obtain ⟨a, rfl⟩ := vIsI_i.mp h1
    obtain ⟨b, rfl⟩ := vIsL_i.mp h2
    exact ⟨_, by rw [hs]; rfl, h3⟩
theorem k_i1 (hx : mInfo mi = some x) {i : Instr} (hd : decode x.2.1 pc = .ok (i, 1)) (hc : cls i = 1) (f : Int32 → Value) (hs : ∀ st, sA i st = iUn f st) (hsx : ∀ st, sX mi pc x.2.2.2.2.1 i st h = none) {v : Value} : aWP d mi pc L (v :: st) h Q ↔ vIsI v ∧ aWP d mi (pc + 1) L (f (vOI v) :: st) h Q := by
  rw [wp_A hx hd hc (hsx _)]
  constructor
  · rintro ⟨st', h1, h2⟩
    rw [hs] at h1
    obtain ⟨a, r, e1, rfl⟩ := iUn_s h1
    cases e1
    exact ⟨trivial, h2⟩
  · rintro ⟨h1, h3⟩
    obtain ⟨a, rfl⟩ := vIsI_i.mp h1
    exact ⟨_, by rw [hs]; rfl, h3⟩
theorem k_l1 (hx : mInfo mi = some x) {i : Instr} (hd : decode x.2.1 pc = .ok (i, 1)) (hc : cls i = 1) (f : Int64 → Value) (hs : ∀ st, sA i st = lUn f st) (hsx : ∀ st, sX mi pc x.2.2.2.2.1 i st h = none) {v : Value} : aWP d mi pc L (v :: st) h Q ↔ vIsL v ∧ aWP d mi (pc + 1) L (f (vOL v) :: st) h Q := by
  rw [wp_A hx hd hc (hsx _)]
  constructor
  · rintro ⟨st', h1, h2⟩
    rw [hs] at h1
    obtain ⟨a, r, e1, rfl⟩ := lUn_s h1
    cases e1
    exact ⟨trivial, h2⟩
  · rintro ⟨h1, h3⟩
    obtain ⟨a, rfl⟩ := vIsL_i.mp h1
    exact ⟨_, by rw [hs]; rfl, h3⟩
theorem k_lcmp (hx : mInfo mi = some x) (hd : decode x.2.1 pc = .ok (.lcmp, 1)) {v w : Value} : aWP d mi pc L (v :: w :: st) h Q ↔ (vIsL v ∧ vIsL w) ∧ aWP d mi (pc + 1) L (.int (lg_cmp (vOL w) (vOL v)) :: st) h Q := by
  rw [wp_A hx hd rfl rfl]
  constructor
  · rintro ⟨st', h1, h2⟩
    unfold sA at h1
    dsimp only at h1
    split at h1
    · rename_i e
      cases e
      cases h1
      exact ⟨⟨trivial, trivial⟩, h2⟩
    · cases h1
  · rintro ⟨⟨h1, h2⟩, h3⟩
    obtain ⟨a, rfl⟩ := vIsL_i.mp h1
    obtain ⟨b, rfl⟩ := vIsL_i.mp h2
    exact ⟨_, rfl, h3⟩
theorem k_cst (hx : mInfo mi = some x) {i : Instr} (hd : decode x.2.1 pc = .ok (i, 1)) (hc : cls i = 1) {v : Value} (hs : ∀ st, sA i st = some (v :: st)) (hsx : ∀ st, sX mi pc x.2.2.2.2.1 i st h = none) : aWP d mi pc L st h Q ↔ aWP d mi (pc + 1) L (v :: st) h Q := by
  rw [wp_A hx hd hc (hsx _)]
  constructor
  · rintro ⟨st', h1, h2⟩
    rw [hs] at h1
    cases h1
    exact h2
  · intro h2
    exact ⟨_, hs _, h2⟩
theorem k_dup (hx : mInfo mi = some x) (hd : decode x.2.1 pc = .ok (.dup, 1)) {v : Value} : aWP d mi pc L (v :: st) h Q ↔ v.category = 1 ∧ aWP d mi (pc + 1) L (v :: v :: st) h Q := by
  rw [wp_A hx hd rfl rfl]
  constructor
  · rintro ⟨st', h1, h2⟩
    have h1 : (if v.category = 1 then some (v :: v :: st) else none) = some st' := h1
    split at h1
    · rename_i e; cases h1; exact ⟨e, h2⟩
    · cases h1
  · rintro ⟨h1, h2⟩
    exact ⟨_, if_pos h1, h2⟩
theorem k_pop (hx : mInfo mi = some x) (hd : decode x.2.1 pc = .ok (.pop, 1)) {v : Value} : aWP d mi pc L (v :: st) h Q ↔ v.category = 1 ∧ aWP d mi (pc + 1) L st h Q := by
  rw [wp_A hx hd rfl rfl]
  constructor
  · rintro ⟨st', h1, h2⟩
    have h1 : (if v.category = 1 then some st else none) = some st' := h1
    split at h1
    · rename_i e; cases h1; exact ⟨e, h2⟩
    · cases h1
  · rintro ⟨h1, h2⟩
    exact ⟨_, if_pos h1, h2⟩
theorem k_pop2 (hx : mInfo mi = some x) (hd : decode x.2.1 pc = .ok (.pop2, 1)) {v : Value} : aWP d mi pc L (v :: st) h Q ↔ v.category = 2 ∧ aWP d mi (pc + 1) L st h Q := by
  rw [wp_A hx hd rfl rfl]
  constructor
  · rintro ⟨st', h1, h2⟩
    have h1 : (if v.category = 2 then some st else none) = some st' := h1
    split at h1
    · rename_i e; cases h1; exact ⟨e, h2⟩
    · cases h1
  · rintro ⟨h1, h2⟩
    exact ⟨_, if_pos h1, h2⟩
theorem k_dup2 (hx : mInfo mi = some x) (hd : decode x.2.1 pc = .ok (.dup2, 1)) {v w : Value} (hv : v.category = 1) (hw : w.category = 1) : aWP d mi pc L (v :: w :: st) h Q ↔ aWP d mi (pc + 1) L (v :: w :: v :: w :: st) h Q := by
  rw [wp_A hx hd rfl rfl]
  constructor
  · rintro ⟨st', h1, h2⟩
    have h1 : (if v.category = 1 ∧ w.category = 1 then some (v :: w :: v :: w :: st) else if v.category = 2 then some (v :: v :: w :: st) else none) = some st' := h1
    rw [if_pos ⟨hv, hw⟩] at h1
    cases h1
    exact h2
  · intro h2
    exact ⟨_, if_pos ⟨hv, hw⟩, h2⟩
-- locals
theorem k_ldI (hx : mInfo mi = some x) {i : Instr} {len k : Nat} (hd : decode x.2.1 pc = .ok (i, len)) (hc : cls i = 2) (hs : ∀ st, sB x.2.2.2.2.1 x.2.2.1 i L st = (match lget L k with | some (.int a) => some (len, L, .int a :: st) | _ => none)) (hsx : ∀ st, sX mi pc x.2.2.2.2.1 i st h = none) : aWP d mi pc L st h Q ↔ vIsI (lgv L k) ∧ aWP d mi (pc + len) L (lgv L k :: st) h Q := by
  rw [wp_B hx hd hc (hsx _), hs]
  constructor
  · rintro ⟨L', st', h1, h2⟩
    split at h1
    · rename_i a hg
      cases h1
      rw [lgv_get hg]
      exact ⟨trivial, h2⟩
    · cases h1
  · rintro ⟨h1, h2⟩
    obtain ⟨a, e⟩ := vIsI_i.mp h1
    rw [e] at h2
    rw [lget_of e (by simp)]
    exact ⟨_, _, rfl, h2⟩
theorem k_ldL (hx : mInfo mi = some x) {i : Instr} {len k : Nat} (hd : decode x.2.1 pc = .ok (i, len)) (hc : cls i = 2) (hs : ∀ st, sB x.2.2.2.2.1 x.2.2.1 i L st = (match lget L k with | some (.long a) => some (len, L, .long a :: st) | _ => none)) (hsx : ∀ st, sX mi pc x.2.2.2.2.1 i st h = none) : aWP d mi pc L st h Q ↔ vIsL (lgv L k) ∧ aWP d mi (pc + len) L (lgv L k :: st) h Q := by
  rw [wp_B hx hd hc (hsx _), hs]
  constructor
  · rintro ⟨L', st', h1, h2⟩
    split at h1
    · rename_i a hg
      cases h1
      rw [lgv_get hg]
      exact ⟨trivial, h2⟩
    · cases h1
  · rintro ⟨h1, h2⟩
    obtain ⟨a, e⟩ := vIsL_i.mp h1
    rw [e] at h2
    rw [lget_of e (by simp)]
    exact ⟨_, _, rfl, h2⟩
theorem k_ldR (hx : mInfo mi = some x) {i : Instr} {len k : Nat} (hd : decode x.2.1 pc = .ok (i, len)) (hc : cls i = 2) (hs : ∀ st, sB x.2.2.2.2.1 x.2.2.1 i L st = (match lget L k with | some (.ref a) => some (len, L, .ref a :: st) | _ => none)) (hsx : ∀ st, sX mi pc x.2.2.2.2.1 i st h = none) : aWP d mi pc L st h Q ↔ vIsR (lgv L k) ∧ aWP d mi (pc + len) L (lgv L k :: st) h Q := by
  rw [wp_B hx hd hc (hsx _), hs]
  constructor
  · rintro ⟨L', st', h1, h2⟩
    split at h1
    · rename_i a hg
      cases h1
      rw [lgv_get hg]
      exact ⟨trivial, h2⟩
    · cases h1
  · rintro ⟨h1, h2⟩
    obtain ⟨a, e⟩ := vIsR_i.mp h1
    rw [e] at h2
    rw [lget_of e (by simp)]
    exact ⟨_, _, rfl, h2⟩
theorem k_stI (hx : mInfo mi = some x) {i : Instr} {len k : Nat} (hd : decode x.2.1 pc = .ok (i, len)) (hc : cls i = 2) (hk : k < x.2.2.1) (hs : ∀ st, sB x.2.2.2.2.1 x.2.2.1 i L st = (match st with | .int a :: r => if k < x.2.2.1 then some (len, lst1 L k (.int a), r) else none | _ => none)) (hsx : ∀ st, sX mi pc x.2.2.2.2.1 i st h = none) {v : Value} : aWP d mi pc L (v :: st) h Q ↔ vIsI v ∧ aWP d mi (pc + len) (lst1 L k v) st h Q := by
  rw [wp_B hx hd hc (hsx _), hs]
  constructor
  · rintro ⟨L', st', h1, h2⟩
    split at h1
    · rename_i a r e
      cases e
      rw [if_pos hk] at h1
      cases h1
      exact ⟨trivial, h2⟩
    · cases h1
  · rintro ⟨h1, h2⟩
    obtain ⟨a, rfl⟩ := vIsI_i.mp h1
    exact ⟨_, _, if_pos hk, h2⟩
theorem k_stR (hx : mInfo mi = some x) {i : Instr} {len k : Nat} (hd : decode x.2.1 pc = .ok (i, len)) (hc : cls i = 2) (hk : k < x.2.2.1) (hs : ∀ st, sB x.2.2.2.2.1 x.2.2.1 i L st = (match st with | .ref a :: r => if k < x.2.2.1 then some (len, lst1 L k (.ref a), r) else none | _ => none)) (hsx : ∀ st, sX mi pc x.2.2.2.2.1 i st h = none) {v : Value} : aWP d mi pc L (v :: st) h Q ↔ vIsR v ∧ aWP d mi (pc + len) (lst1 L k v) st h Q := by
  rw [wp_B hx hd hc (hsx _), hs]
  constructor
  · rintro ⟨L', st', h1, h2⟩
    split at h1
    · rename_i a r e
      cases e
      rw [if_pos hk] at h1
      cases h1
      exact ⟨trivial, h2⟩
    · cases h1
  · rintro ⟨h1, h2⟩
    obtain ⟨a, rfl⟩ := vIsR_i.mp h1
    exact ⟨_, _, if_pos hk, h2⟩
theorem k_stL (hx : mInfo mi = some x) {i : Instr} {len k : Nat} (hd : decode x.2.1 pc = .ok (i, len)) (hc : cls i = 2) (hk : k + 1 < x.2.2.1) (hs : ∀ st, sB x.2.2.2.2.1 x.2.2.1 i L st = (match st with | .long a :: r => if k + 1 < x.2.2.1 then some (len, lst2 L k (.long a), r) else none | _ => none)) (hsx : ∀ st, sX mi pc x.2.2.2.2.1 i st h = none) {v : Value} : aWP d mi pc L (v :: st) h Q ↔ vIsL v ∧ aWP d mi (pc + len) (lst2 L k v) st h Q := by
  rw [wp_B hx hd hc (hsx _), hs]
  constructor
  · rintro ⟨L', st', h1, h2⟩
    split at h1
    · rename_i a r e
      cases e
      rw [if_pos hk] at h1
      cases h1
      exact ⟨trivial, h2⟩
    · cases h1
  · rintro ⟨h1, h2⟩
    obtain ⟨a, rfl⟩ := vIsL_i.mp h1
    exact ⟨_, _, if_pos hk, h2⟩
theorem k_inc (hx : mInfo mi = some x) {k : Nat} {n : Int} {v : Int32} (hd : decode x.2.1 pc = .ok (.iinc k n, 3)) (hk : k < x.2.2.1) (hv : Int32.ofInt n = v) : aWP d mi pc L st h Q ↔ vIsI (lgv L k) ∧ aWP d mi (pc + 3) (lst1 L k (.int (vOI (lgv L k) + v))) st h Q := by
  subst hv
  rw [wp_B hx hd rfl rfl]
  constructor
  · rintro ⟨L', st', h1, h2⟩
    unfold sB at h1
    dsimp only at h1
    split at h1
    · rename_i a hg
      rw [if_pos hk] at h1
      cases h1
      rw [lgv_get hg]
      exact ⟨trivial, h2⟩
    · cases h1
  · rintro ⟨h1, h2⟩
    obtain ⟨a, e⟩ := vIsI_i.mp h1
    rw [e] at h2
    refine ⟨_, _, ?_, h2⟩
    unfold sB
    dsimp only
    rw [lget_of e (by simp)]
    exact if_pos hk
theorem k_psh (hx : mInfo mi = some x) {i : Instr} {len : Nat} (hd : decode x.2.1 pc = .ok (i, len)) (hc : cls i = 2) {v : Value} (hs : ∀ st, sB x.2.2.2.2.1 x.2.2.1 i L st = some (len, L, v :: st)) (hsx : ∀ st, sX mi pc x.2.2.2.2.1 i st h = none) : aWP d mi pc L st h Q ↔ aWP d mi (pc + len) L (v :: st) h Q := by
  rw [wp_B hx hd hc (hsx _), hs]
  constructor
  · rintro ⟨L', st', h1, h2⟩
    cases h1
    exact h2
  · intro h2
    exact ⟨_, _, rfl, h2⟩
-- branches
theorem k_goto (hx : mInfo mi = some x) {off : Int} {t : Nat} (hd : decode x.2.1 pc = .ok (.goto off, 3)) (ho : 0 ≤ (pc : Int) + off) (ht : tgt pc off = t) : aWP d mi pc L st h Q ↔ aWP d mi t L st h Q := by
  rw [wp_J hx hd rfl rfl rfl ho ht]
  exact ⟨fun q => q.1 trivial, fun q => ⟨fun _ => q, fun z => absurd trivial z⟩⟩
theorem k_if2 (hx : mInfo mi = some x) {cd : ClassFile.Cond} {off : Int} {t : Nat} (hd : decode x.2.1 pc = .ok (.if_icmp cd off, 3)) (ho : 0 ≤ (pc : Int) + off) (ht : tgt pc off = t) {a b : Int32} : aWP d mi pc L (.int b :: .int a :: st) h Q ↔ (icnd cd a b → aWP d mi t L st h Q) ∧ (¬ icnd cd a b → aWP d mi (pc + 3) L st h Q) :=
  wp_J hx hd rfl rfl rfl ho ht
theorem k_if1 (hx : mInfo mi = some x) {cd : ClassFile.Cond} {off : Int} {t : Nat} (hd : decode x.2.1 pc = .ok (.ifCond cd off, 3)) (ho : 0 ≤ (pc : Int) + off) (ht : tgt pc off = t) {a : Int32} : aWP d mi pc L (.int a :: st) h Q ↔ (icnd cd a 0 → aWP d mi t L st h Q) ∧ (¬ icnd cd a 0 → aWP d mi (pc + 3) L st h Q) :=
  wp_J hx hd rfl rfl rfl ho ht
end KND
