/-! Judgements over the small machine alone: fewer locals do as well -/
def lo_le (a b : ex_Lo) : Prop := a.length = b.length ∧ ∀ (i : Nat) (v : Value), a[i]? = some (some v) → b[i]? = some (some v)
def lo_leR : ex_Lo → ex_Lo → Prop
  | [], [] => True
  | none :: a, _ :: b => lo_leR a b
  | some v :: a, x :: b => x = some v ∧ lo_leR a b
  | _, _ => False
theorem lo_le_of : ∀ (a b : ex_Lo), lo_leR a b → lo_le a b
  | [], [], _ => ⟨rfl, fun _ _ h => h⟩
  | none :: a, x :: b, h => by
    obtain ⟨h1, h2⟩ := lo_le_of a b h
    refine ⟨by simp [h1], fun i v hv => ?_⟩
    cases i with
    | zero => simp at hv
    | succ i => simpa using h2 i v (by simpa using hv)
  | some u :: a, x :: b, h => by
    obtain ⟨h1, h2⟩ := lo_le_of a b h.2
    refine ⟨by simp [h1], fun i v hv => ?_⟩
    cases i with
    | zero => simpa [h.1] using hv
    | succ i => simpa using h2 i v (by simpa using hv)
  | [], x :: b, h => absurd h (by simp [lo_leR])
  | none :: a, [], h => absurd h (by simp [lo_leR])
  | some u :: a, [], h => absurd h (by simp [lo_leR])
theorem lo_le_set {a b : ex_Lo} (h : lo_le a b) (i : Nat) (x : Option Value) : lo_le (a.set i x) (b.set i x) := by
  refine ⟨by simp [h.1], fun j v hv => ?_⟩
  rw [List.getElem?_set] at hv ⊢
  rw [← h.1]
  split at hv
  · rename_i e
    rw [if_pos e]
    exact hv
  · rename_i e
    rw [if_neg e]
    exact h.2 j v hv
theorem lo_le_setN {a b : ex_Lo} (h : lo_le a b) (i : Nat) (hn : ∀ v, a[i]? ≠ some (some v)) : lo_le a (b.set i none) := by
  refine ⟨by simp [h.1], fun j v hv => ?_⟩
  rw [List.getElem?_set]
  split
  · rename_i e
    subst e
    exact absurd hv (hn v)
  · exact h.2 j v hv
theorem lo_le_clr {a b : ex_Lo} (h : lo_le a b) (i : Nat) : lo_le (ex_clr a i) (ex_clr b i) := by
  cases i with
  | zero => exact h
  | succ j =>
    by_cases hl : ∃ x, a[j]? = some (some (.long x))
    · obtain ⟨x, hx⟩ := hl
      unfold ex_clr
      dsimp only
      rw [hx, h.2 _ _ hx]
      exact lo_le_set h _ _
    · have ha : ex_clr a (j + 1) = a := by
        unfold ex_clr
        dsimp only
        split
        · rename_i x hx
          exact absurd ⟨x, hx⟩ hl
        · rfl
      rw [ha]
      unfold ex_clr
      dsimp only
      split
      · rename_i x hx
        refine lo_le_setN h j fun v hv => ?_
        have := h.2 _ _ hv
        rw [hx] at this
        cases this
        exact hl ⟨x, hv⟩
      · exact h
abbrev ex_pmP (ins : Instr) (k : Int32) (a b : ex_Lo) (st : List Value) : Prop := (∃ (a' b' : ex_Lo) (st' : List Value), ex_pure ins k a st = some (a', st') ∧ ex_pure ins k b st = some (b', st') ∧ lo_le a' b') ∨ (ex_pure ins k a st = none ∧ (ex_pure ins k b st = none ∨ ∀ (ro : Nat) (r : List Nat) (k : Int32) (st : List Value) (w : ex_W), ex_heap ro ins r k st w = none))
abbrev ex_qmP (f : ex_Lo → Option (ex_Lo × List Value)) (a b : ex_Lo) : Prop := (∃ (a' b' : ex_Lo) (st' : List Value), f a = some (a', st') ∧ f b = some (b', st') ∧ lo_le a' b') ∨ f a = none
theorem ex_mldi {a b : ex_Lo} (h : lo_le a b) (i : Nat) (st : List Value) : ex_qmP (fun lo => ex_ldi lo i st) a b := by
  unfold ex_qmP ex_ldi
  dsimp only
  split
  · rename_i x hx
    rw [h.2 _ _ hx]
    exact Or.inl ⟨a, b, _, rfl, rfl, h⟩
  · exact Or.inr rfl
theorem ex_mldl {a b : ex_Lo} (h : lo_le a b) (i : Nat) (st : List Value) : ex_qmP (fun lo => ex_ldl lo i st) a b := by
  unfold ex_qmP ex_ldl
  dsimp only
  split
  · rename_i x hx
    rw [h.2 _ _ hx]
    exact Or.inl ⟨a, b, _, rfl, rfl, h⟩
  · exact Or.inr rfl
theorem ex_mlda {a b : ex_Lo} (h : lo_le a b) (i : Nat) (st : List Value) : ex_qmP (fun lo => ex_lda lo i st) a b := by
  unfold ex_qmP ex_lda
  dsimp only
  split
  · rename_i x hx
    rw [h.2 _ _ hx]
    exact Or.inl ⟨a, b, _, rfl, rfl, h⟩
  · exact Or.inr rfl
theorem ex_mst1 {a b : ex_Lo} (h : lo_le a b) (i : Nat) (v : Value) : lo_le (ex_st1 a i v) (ex_st1 b i v) := lo_le_set (lo_le_clr h i) i _
theorem ex_mst2 {a b : ex_Lo} (h : lo_le a b) (i : Nat) (v : Value) : lo_le (ex_st2 a i v) (ex_st2 b i v) := lo_le_set (lo_le_set (lo_le_clr h i) i _) _ _
theorem ex_msti {a b : ex_Lo} (h : lo_le a b) (i : Nat) (st : List Value) : ex_qmP (fun lo => ex_sti lo i st) a b := by
  unfold ex_qmP ex_sti
  dsimp only
  split
  · rw [h.1]
    split
    · exact Or.inl ⟨_, _, _, rfl, rfl, ex_mst1 h _ _⟩
    · exact Or.inr rfl
  · exact Or.inr rfl
theorem ex_msta {a b : ex_Lo} (h : lo_le a b) (i : Nat) (st : List Value) : ex_qmP (fun lo => ex_sta lo i st) a b := by
  unfold ex_qmP ex_sta
  dsimp only
  split
  · rw [h.1]
    split
    · exact Or.inl ⟨_, _, _, rfl, rfl, ex_mst1 h _ _⟩
    · exact Or.inr rfl
  · exact Or.inr rfl
theorem ex_mstl {a b : ex_Lo} (h : lo_le a b) (i : Nat) (st : List Value) : ex_qmP (fun lo => ex_stl lo i st) a b := by
  unfold ex_qmP ex_stl
  dsimp only
  split
  · rw [h.1]
    split
    · exact Or.inl ⟨_, _, _, rfl, rfl, ex_mst2 h _ _⟩
    · exact Or.inr rfl
  · exact Or.inr rfl
theorem ex_minc {a b : ex_Lo} (h : lo_le a b) (i : Nat) (k : Int32) (st : List Value) : ex_qmP (fun lo => match lo[i]? with
    | some (some (.int x)) => if i < lo.length then some (ex_st1 lo i (.int (x + k)), st) else none
    | _ => none) a b := by
  unfold ex_qmP
  dsimp only
  split
  · rename_i x hx
    rw [h.2 _ _ hx]
    dsimp only
    rw [h.1]
    split
    · exact Or.inl ⟨_, _, _, rfl, rfl, ex_mst1 h _ _⟩
    · exact Or.inr rfl
  · exact Or.inr rfl
theorem ex_qp {ins : Instr} {k : Int32} {a b : ex_Lo} {st : List Value} (hq : ex_qmP (fun lo => ex_pure ins k lo st) a b) (hh : ∀ (ro : Nat) (r : List Nat) (k : Int32) (st : List Value) (w : ex_W), ex_heap ro ins r k st w = none) : ex_pmP ins k a b st := by
  rcases hq with h | h
  · exact Or.inl h
  · exact Or.inr ⟨h, Or.inr hh⟩
theorem ex_qm {ins : Instr} {k : Int32} {st : List Value} (g : Option (List Value)) (hg : ∀ lo, ex_pure ins k lo st = g.map fun s => (lo, s)) {a b : ex_Lo} (h : lo_le a b) : ex_pmP ins k a b st := by
  unfold ex_pmP
  rw [hg, hg]
  cases g with
  | none => exact Or.inr ⟨rfl, Or.inl rfl⟩
  | some s => exact Or.inl ⟨a, b, s, rfl, rfl, h⟩
theorem ex_qs {ins : Instr} {k : Int32} {st : List Value} (hg : ∀ lo, ex_pure ins k lo st = ((ex_pure ins k [] st).map Prod.snd).map fun s => (lo, s)) {a b : ex_Lo} (h : lo_le a b) : ex_pmP ins k a b st := ex_qm _ hg h
theorem ex_pmon (ins : Instr) (k : Int32) (st : List Value) {a b : ex_Lo} (h : lo_le a b) : ex_pmP ins k a b st := by
  cases ins <;> first
    | exact ex_qm none (fun _ => rfl) h
    | exact ex_qp (ex_mldi h _ _) (fun _ _ _ _ _ => rfl)
    | exact ex_qp (ex_mldl h _ _) (fun _ _ _ _ _ => rfl)
    | exact ex_qp (ex_mlda h _ _) (fun _ _ _ _ _ => rfl)
    | exact ex_qp (ex_msti h _ _) (fun _ _ _ _ _ => rfl)
    | exact ex_qp (ex_mstl h _ _) (fun _ _ _ _ _ => rfl)
    | exact ex_qp (ex_msta h _ _) (fun _ _ _ _ _ => rfl)
    | exact ex_qp (ex_minc h _ _ _) (fun _ _ _ _ _ => rfl)
    | (refine ex_qs (fun lo => ?_) h
       rcases st with _ | ⟨v1, _ | ⟨v2, st⟩⟩ <;> (try cases v1) <;> (try cases v2) <;> first | rfl | (simp only [ex_pure]; split <;> rfl))
def lo_mon (e e' : Option ex_E) : Prop := ∀ (L : List ex_R) (lo : ex_Lo) (st : List Value) (w : ex_W), e = some (L, lo, st, w) → ∃ lo', lo_le lo lo' ∧ e' = some (L, lo', st, w)
theorem lo_mon_n {e : Option ex_E} : lo_mon none e := fun _ _ _ _ h => nomatch h
theorem lo_mon_r {e : Option ex_E} : lo_mon e e := fun _ lo _ _ h => ⟨lo, ⟨rfl, fun _ _ h => h⟩, h⟩
abbrev ex_mS (self : ex_S) : Prop := ∀ (d : Nat) (cd : List (List ex_R)) (L : List ex_R) (a b : ex_Lo) (st : List Value) (w : ex_W), lo_le a b → lo_mon (self d cd L a st w) (self d cd L b st w)
theorem ex_mret {self : ex_S} (hS : ex_mS self) (d : Nat) (cd : List (List ex_R)) (L : List ex_R) {a b : ex_Lo} (rest : List Value) (x : Option ex_A) (h : lo_le a b) : lo_mon (ex_ret self d cd L a rest x) (ex_ret self d cd L b rest x) := by
  unfold ex_ret
  split
  · exact hS _ _ _ _ _ _ _ h
  · exact hS _ _ _ _ _ _ _ h
  · exact lo_mon_n
theorem ex_mretC {self : ex_S} (hS : ex_mS self) (d : Nat) (cd : List (List ex_R)) (L : List ex_R) {a b : ex_Lo} (rest : List Value) (rs : List Nat) (x : Option ex_A) (h : lo_le a b) : lo_mon (ex_retC self d cd L a rest rs x) (ex_retC self d cd L b rest rs x) := by
  unfold ex_retC
  split
  · exact lo_mon_r
  · exact ex_mret hS _ _ _ _ _ h
theorem ex_minv {self : ex_S} (hS : ex_mS self) (ro : Nat) (mt : Nat → Option ex_M) (d : Nat) (cd : List (List ex_R)) (r : List Nat) (L : List ex_R) {a b : ex_Lo} (st : List Value) (w : ex_W) (h : lo_le a b) : lo_mon (ex_inv ro mt self d cd r L a st w) (ex_inv ro mt self d cd r L b st w) := by
  unfold ex_inv
  repeat' (first | exact lo_mon_n | exact hS _ _ _ _ _ _ _ h | exact ex_mret hS _ _ _ _ _ h | exact ex_mretC hS _ _ _ _ _ _ h | split)
theorem ex_mdef {self : ex_S} (hS : ex_mS self) (ro : Nat) (d : Nat) (cd : List (List ex_R)) (ins : Instr) (r : List Nat) (k : Int32) (L : List ex_R) {a b : ex_Lo} (st : List Value) (w : ex_W) (h : lo_le a b) : lo_mon (match ex_pure ins k a st with
      | some (lo, st) => self d cd L lo st w
      | none => match ex_heap ro ins r k st w with
        | some (st, w) => self d cd L a st w
        | none => none) (match ex_pure ins k b st with
      | some (lo, st) => self d cd L lo st w
      | none => match ex_heap ro ins r k st w with
        | some (st, w) => self d cd L b st w
        | none => none) := by
  rcases ex_pmon ins k st h with ⟨a', b', st', e1, e2, h'⟩ | ⟨e1, e2⟩
  · rw [e1, e2]
    exact hS _ _ _ _ _ _ _ h'
  · rw [e1]
    rcases e2 with e2 | e2
    · rw [e2]
      dsimp only
      split
      · exact hS _ _ _ _ _ _ _ h
      · exact lo_mon_n
    · dsimp only
      rw [e2]
      exact lo_mon_n
theorem ex_mbody {self : ex_S} (hS : ex_mS self) (ro : Nat) (mt : Nat → Option ex_M) : ex_mS (ex_body ro mt self) := by
  intro d cd L a b st w h
  cases L with
  | nil => exact lo_mon_n
  | cons row L =>
    obtain ⟨pc, len, ins, r, k⟩ := row
    cases ins <;> first
      | exact ex_mdef hS ro d cd _ r k L st w h
      | exact ex_minv hS ro mt d cd r L st w h
      | exact hS _ _ _ _ _ _ _ h
      | exact fun _ _ _ _ e => by cases e; exact ⟨b, h, rfl⟩
      | (unfold ex_body; dsimp only [ex_pure]; split <;> first | exact hS _ _ _ _ _ _ _ h | exact lo_mon_n)
      | (unfold ex_body; dsimp only; repeat' (first | exact lo_mon_n | exact hS _ _ _ _ _ _ _ h | exact (fun _ _ _ _ e => by cases e; exact ⟨b, h, rfl⟩) | split | (unfold ex_if; split)))
theorem ex_mrun (ro : Nat) (mt : Nat → Option ex_M) : ∀ n, ex_mS (ex_run ro mt n)
  | 0 => fun _ _ _ _ _ _ _ _ => lo_mon_n
  | n + 1 => ex_mbody (ex_mrun ro mt n) ro mt
theorem ex_mend {ret : Option FieldType} {e e' : Option ex_E} {y : ex_A} (h : lo_mon e e') (he : ex_end ret e = some y) : ex_end ret e' = some y := by
  cases e with
  | none => cases he
  | some q =>
    obtain ⟨L, lo, st, w⟩ := q
    obtain ⟨lo', -, e9⟩ := h L lo st w rfl
    rw [e9]
    cases L with
    | nil => cases he
    | cons row L => exact he
