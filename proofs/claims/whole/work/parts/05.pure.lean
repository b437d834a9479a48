/-! The small machine's instructions that need neither heap nor tables, held against the JVM -/
def ex_cv (ad : Nat → Nat) (v : Value) : Value := match v with
  | .ref i => .ref (ad i)
  | v => v
/-- a reference of the world (of z things) -/
def ex_okv (z : Nat) (v : Value) : Prop := match v with
  | .ref i => i < z
  | .int _ => True
  | .long _ => True
  | .null => True
  | _ => False
theorem ex_cv_cat (ad : Nat → Nat) (v : Value) : (ex_cv ad v).category = v.category := by cases v <;> rfl
/-- the locals -/
def ex_LR (ad : Nat → Nat) (z nL : Nat) (lo : ex_Lo) (ls : Array Slot) : Prop := lo.length ≤ nL ∧ lv_has ls nL [] ∧ ∀ (i : Nat) (v : Value), lo[i]? = some (some v) → ls[i]? = some (.val (ex_cv ad v)) ∧ ex_okv z v
theorem ex_LR.size {ad : Nat → Nat} {z nL : Nat} {lo : ex_Lo} {ls : Array Slot} (h : ex_LR ad z nL lo ls) : ls.size = nL := h.2.1.1
def ex_asc (ad : Nat → Nat) (lo : ex_Lo) : List (Nat × Value) := (List.range lo.length).filterMap fun i => match lo[i]? with
  | some (some v) => some (i, ex_cv ad v)
  | _ => none
theorem ex_asc_mem {ad : Nat → Nat} {lo : ex_Lo} {i : Nat} {v : Value} (h : lo[i]? = some (some v)) : (i, ex_cv ad v) ∈ ex_asc ad lo := by
  refine List.mem_filterMap.mpr ⟨i, List.mem_range.mpr (List.getElem?_eq_some_iff.mp h).1, ?_⟩
  rw [h]
theorem ex_asc_of {ad : Nat → Nat} {lo : ex_Lo} {q : Nat × Value} (h : q ∈ ex_asc ad lo) : ∃ v, lo[q.1]? = some (some v) ∧ q.2 = ex_cv ad v := by
  obtain ⟨i, -, hi⟩ := List.mem_filterMap.mp h
  split at hi
  · next v hv => cases hi; exact ⟨v, hv, rfl⟩
  · cases hi
theorem ex_LR.has {ad : Nat → Nat} {z nL : Nat} {lo : ex_Lo} {ls : Array Slot} (h : ex_LR ad z nL lo ls) : lv_has ls nL (ex_asc ad lo) :=
  ⟨h.2.1.1, h.2.1.2.1, fun q hq => by
    obtain ⟨v, h1, h2⟩ := ex_asc_of hq
    rw [h2]; exact (h.2.2 _ _ h1).1⟩
theorem ex_clr_len (lo : ex_Lo) (i : Nat) : (ex_clr lo i).length = lo.length := by
  unfold ex_clr
  split
  · rfl
  · split <;> simp
theorem ex_clr_get {lo : ex_Lo} {i j : Nat} {v : Value} (h : (ex_clr lo i)[j]? = some (some v)) : lo[j]? = some (some v) ∧ ¬ (j + 1 = i ∧ v.category = 2) ∨ (lo[j]? = some (some v) ∧ j + 1 = i ∧ v.category ≠ 2) ∨ (lo[j]? = some (some v) ∧ ∀ x, v ≠ .long x) := by
  unfold ex_clr at h
  split at h
  · exact Or.inl ⟨h, fun q => by omega⟩
  · next j0 =>
    split at h
    · next x hx =>
      by_cases hj : j = j0
      · subst hj
        rw [List.getElem?_set_self (List.getElem?_eq_some_iff.mp hx).1] at h
        cases h
      · rw [List.getElem?_set_ne (fun q => hj q.symm)] at h
        exact Or.inl ⟨h, fun q => hj (by omega)⟩
    · next hn =>
      by_cases hj : j = j0
      · subst hj
        exact Or.inr (Or.inr ⟨h, fun x e => hn x (by rw [h, e])⟩)
      · exact Or.inl ⟨h, fun q => hj (by omega)⟩
theorem ex_clr_in {z : Nat} {lo : ex_Lo} {i j : Nat} {v : Value} (ad : Nat → Nat) (hok : v.category = 2 → ∃ x, v = .long x) (h : (ex_clr lo i)[j]? = some (some v)) : lo[j]? = some (some v) ∧ ¬ (j + 1 = i ∧ (ex_cv ad v).category = 2) := by
  rw [ex_cv_cat]
  rcases ex_clr_get h with h | h | h
  · exact h
  · exact ⟨h.1, fun q => h.2.2 q.2⟩
  · exact ⟨h.1, fun q => by obtain ⟨x, e⟩ := hok q.2; exact h.2 x e⟩
/-- only longs take two places -/
def ex_nod (lo : ex_Lo) : Prop := ∀ (i : Nat) (v : Value), lo[i]? = some (some v) → v.category = 2 → ∃ x, v = .long x
section EXP
variable {p : Program} {l : Launch} {e : Env} {R : Room} {s : State} {m : MethodId} {args : Array Value} {below : List Frame} {meth : Method} {c : Code} {H : Heap} {locs : List Loc} {cells slots : Nat} {Q : State → Prop}
variable {cc : ByteArray} {pc : Nat} {ls : Array Slot} {ad : Nat → Nat} {z nL : Nat} {lo : ex_Lo}
theorem ex_LR.st1 {i : Nat} {v : Value} (h : ex_LR ad z nL lo ls) (hn : ex_nod lo) (hi : i < lo.length) (hv : ex_okv z v) {ls' : Array Slot} (h' : lv_has ls' nL ((i, ex_cv ad v) :: (ex_asc ad lo).filter (fun q => !(q.1 == i) && !(q.1 + 1 == i && q.2.category == 2)))) : ex_LR ad z nL (ex_st1 lo i v) ls' := by
  refine ⟨by simp [ex_st1, ex_clr_len, h.1], ⟨h'.1, h'.2.1, fun _ hq => by cases hq⟩, fun j u hj => ?_⟩
  by_cases hji : j = i
  · subst hji
    rw [ex_st1, List.getElem?_set_self (by rw [ex_clr_len]; exact hi)] at hj
    cases hj
    exact ⟨h'.2.2 _ List.mem_cons_self, hv⟩
  · rw [ex_st1, List.getElem?_set_ne (fun q => hji q.symm)] at hj
    have hlo : lo[j]? = some (some u) := by
      rcases ex_clr_get hj with h | h | h <;> exact h.1
    have hc := ex_clr_in (z := z) ad (hn j u hlo) hj
    refine ⟨h'.2.2 (j, ex_cv ad u) (List.mem_cons_of_mem _ (List.mem_filter.mpr ⟨ex_asc_mem hc.1, ?_⟩)), (h.2.2 j u hc.1).2⟩
    simp only [Bool.and_eq_true, Bool.not_eq_true', beq_eq_false_iff_ne, ne_eq, Bool.and_eq_false_iff]
    refine ⟨hji, ?_⟩
    by_cases q : j + 1 = i
    · exact Or.inr (fun q2 => hc.2 ⟨q, q2⟩)
    · exact Or.inl q
theorem ex_LR.st2 {i : Nat} {v : Value} (h : ex_LR ad z nL lo ls) (hn : ex_nod lo) (hi : i + 1 < lo.length) (hv : ex_okv z v) {ls' : Array Slot} (h' : lv_has ls' nL ((i, ex_cv ad v) :: (ex_asc ad lo).filter (fun q => !(q.1 == i) && (!(q.1 == i + 1) && !(q.1 + 1 == i && q.2.category == 2))))) : ex_LR ad z nL (ex_st2 lo i v) ls' := by
  refine ⟨by simp [ex_st2, ex_clr_len, h.1], ⟨h'.1, h'.2.1, fun _ hq => by cases hq⟩, fun j u hj => ?_⟩
  by_cases hji1 : j = i + 1
  · subst hji1
    rw [ex_st2, List.getElem?_set_self (by rw [List.length_set, ex_clr_len]; exact hi)] at hj
    cases hj
  rw [ex_st2, List.getElem?_set_ne (fun q => hji1 q.symm)] at hj
  by_cases hji : j = i
  · subst hji
    rw [List.getElem?_set_self (by rw [ex_clr_len]; omega)] at hj
    cases hj
    exact ⟨h'.2.2 _ List.mem_cons_self, hv⟩
  · rw [List.getElem?_set_ne (fun q => hji q.symm)] at hj
    have hlo : lo[j]? = some (some u) := by
      rcases ex_clr_get hj with h | h | h <;> exact h.1
    have hc := ex_clr_in (z := z) ad (hn j u hlo) hj
    refine ⟨h'.2.2 (j, ex_cv ad u) (List.mem_cons_of_mem _ (List.mem_filter.mpr ⟨ex_asc_mem hc.1, ?_⟩)), (h.2.2 j u hc.1).2⟩
    simp only [Bool.and_eq_true, Bool.not_eq_true', beq_eq_false_iff_ne, ne_eq, Bool.and_eq_false_iff]
    refine ⟨hji, hji1, ?_⟩
    by_cases q : j + 1 = i
    · exact Or.inr (fun q2 => hc.2 ⟨q, q2⟩)
    · exact Or.inl q
theorem ex_nod.clr (hn : ex_nod lo) (i : Nat) : ex_nod (ex_clr lo i) := fun j u hj hc => by
  have hlo : lo[j]? = some (some u) := by
    rcases ex_clr_get hj with h | h | h <;> exact h.1
  exact hn j u hlo hc
theorem ex_nod.set (hn : ex_nod lo) (i : Nat) (o : Option Value) (ho : ∀ v, o = some v → v.category = 2 → ∃ x, v = .long x) : ex_nod (lo.set i o) := fun j u hj hc => by
  by_cases hji : i = j
  · subst hji
    by_cases hl : i < lo.length
    · rw [List.getElem?_set_self hl] at hj
      cases hj
      exact ho u rfl hc
    · rw [List.getElem?_eq_none (by rw [List.length_set]; omega)] at hj
      cases hj
  · rw [List.getElem?_set_ne hji] at hj
    exact hn j u hj hc
def ex_kok (ins : Instr) (k : Int32) (len : Nat) : Bool := match ins with
  | .iconst n => decide (Int32.ofInt n = k) && decide (len = 1)
  | .bipush n => decide ((Int8.ofInt n).toInt32 = k) && decide (len = 2)
  | .sipush n => decide ((Int16.ofInt n).toInt32 = k) && decide (len = 3)
  | .iinc _ n => decide (Int32.ofInt n = k) && decide (len = 3)
  | .iload _ => decide (len = 2)
  | .lload _ => decide (len = 2)
  | .aload _ => decide (len = 2)
  | .istore _ => decide (len = 2)
  | .lstore _ => decide (len = 2)
  | .astore _ => decide (len = 2)
  | _ => decide (len = 1)
theorem ex_ldi_of {i : Nat} {st st' : List Value} {lo' : ex_Lo} (h : ex_ldi lo i st = some (lo', st')) : lo' = lo ∧ ∃ x, lo[i]? = some (some (.int x)) ∧ st' = .int x :: st := by
  unfold ex_ldi at h
  split at h
  · next x hx => cases h; exact ⟨rfl, x, hx, rfl⟩
  · cases h
theorem ex_ldl_of {i : Nat} {st st' : List Value} {lo' : ex_Lo} (h : ex_ldl lo i st = some (lo', st')) : lo' = lo ∧ ∃ x, lo[i]? = some (some (.long x)) ∧ st' = .long x :: st := by
  unfold ex_ldl at h
  split at h
  · next x hx => cases h; exact ⟨rfl, x, hx, rfl⟩
  · cases h
theorem ex_lda_of {i : Nat} {st st' : List Value} {lo' : ex_Lo} (h : ex_lda lo i st = some (lo', st')) : lo' = lo ∧ ∃ x, lo[i]? = some (some (.ref x)) ∧ st' = .ref x :: st := by
  unfold ex_lda at h
  split at h
  · next x hx => cases h; exact ⟨rfl, x, hx, rfl⟩
  · cases h
theorem ex_sti_of {i : Nat} {st st' : List Value} {lo' : ex_Lo} (h : ex_sti lo i st = some (lo', st')) : ∃ x, st = .int x :: st' ∧ i < lo.length ∧ lo' = ex_st1 lo i (.int x) := by
  unfold ex_sti at h
  split at h
  · split at h
    · next x _ hi => cases h; exact ⟨x, rfl, hi, rfl⟩
    · cases h
  · cases h
theorem ex_stl_of {i : Nat} {st st' : List Value} {lo' : ex_Lo} (h : ex_stl lo i st = some (lo', st')) : ∃ x, st = .long x :: st' ∧ i + 1 < lo.length ∧ lo' = ex_st2 lo i (.long x) := by
  unfold ex_stl at h
  split at h
  · split at h
    · next x _ hi => cases h; exact ⟨x, rfl, hi, rfl⟩
    · cases h
  · cases h
theorem ex_sta_of {i : Nat} {st st' : List Value} {lo' : ex_Lo} (h : ex_sta lo i st = some (lo', st')) : ∃ x, st = .ref x :: st' ∧ i < lo.length ∧ lo' = ex_st1 lo i (.ref x) := by
  unfold ex_sta at h
  split at h
  · split at h
    · next x _ hi => cases h; exact ⟨x, rfl, hi, rfl⟩
    · cases h
  · cases h
theorem ex_ii_of {f : Int32 → Int32 → Int32} {st st' : List Value} {lo' : ex_Lo} (h : ex_ii f lo st = some (lo', st')) : lo' = lo ∧ ∃ x y r, st = .int y :: .int x :: r ∧ st' = .int (f x y) :: r := by
  unfold ex_ii at h
  split at h
  · next y x r => cases h; exact ⟨rfl, x, y, r, rfl, rfl⟩
  · cases h
theorem ex_ll_of {f : Int64 → Int64 → Int64} {st st' : List Value} {lo' : ex_Lo} (h : ex_ll f lo st = some (lo', st')) : lo' = lo ∧ ∃ x y r, st = .long y :: .long x :: r ∧ st' = .long (f x y) :: r := by
  unfold ex_ll at h
  split at h
  · next y x r => cases h; exact ⟨rfl, x, y, r, rfl, rfl⟩
  · cases h
theorem ex_tl {z : Nat} {a : Value} {st : List Value} (h : ∀ v ∈ a :: st, ex_okv z v) : ∀ v ∈ st, ex_okv z v := fun v hv => h v (List.mem_cons_of_mem _ hv)
theorem ex_cn {z : Nat} {a : Value} {st : List Value} (ha : ex_okv z a) (h : ∀ v ∈ st, ex_okv z v) : ∀ v ∈ a :: st, ex_okv z v := fun v hv => by
  rcases List.mem_cons.mp hv with rfl | hv
  · exact ha
  · exact h v hv
set_option maxHeartbeats 4000000 in
theorem ex_pure_ok {ins : Instr} {k : Int32} {len : Nat} {st st' : List Value} {lo' : ex_Lo} (hexec : p.tables.exec = Jvm.exec) (hb : c.code = cc) (h : ex_pure ins k lo st = some (lo', st')) (hd : decode cc pc = .ok (ins, len)) (hk : ex_kok ins k len = true)
    (hl : ex_LR ad z nL lo ls) (hn : ex_nod lo) (ho : ∀ v ∈ st, ex_okv z v)
    (kk : ∀ ls' : Array Slot, ex_LR ad z nL lo' ls' → ex_nod lo' → (∀ v ∈ st', ex_okv z v) → W p l e R s m args below meth c H locs cells slots Q (F0 m (pc + len) ls' (st'.map (ex_cv ad)))) :
    W p l e R s m args below meth c H locs cells slots Q (F0 m pc ls (st.map (ex_cv ad))) := by
  cases ins <;> first | (simp only [ex_pure, reduceCtorEq] at h; done) | skip
  case iconst n =>
    cases h
    simp only [ex_kok, Bool.and_eq_true, decide_eq_true_eq] at hk
    obtain ⟨hk, rfl⟩ := hk
    exact lv_iconst hexec hb hd hk (kk ls hl hn (ex_cn trivial ho))
  case bipush n =>
    cases h
    simp only [ex_kok, Bool.and_eq_true, decide_eq_true_eq] at hk
    obtain ⟨hk, rfl⟩ := hk
    exact lv_bipush hexec hb hd hk (kk ls hl hn (ex_cn trivial ho))
  case sipush n =>
    cases h
    simp only [ex_kok, Bool.and_eq_true, decide_eq_true_eq] at hk
    obtain ⟨hk, rfl⟩ := hk
    exact lv_sipush hexec hb hd hk (kk ls hl hn (ex_cn trivial ho))
  case lconst n =>
    cases h
    simp only [ex_kok, decide_eq_true_eq] at hk
    subst hk
    refine lv_lconst hexec hb hd ?_ (kk ls hl hn (ex_cn trivial ho))
    rcases n with ⟨n, hn2⟩
    rcases (show n = 0 ∨ n = 1 by omega) with rfl | rfl <;> rfl
  case iload i =>
    simp only [ex_kok, decide_eq_true_eq] at hk
    subst hk
    obtain ⟨rfl, x, hx, rfl⟩ := ex_ldi_of h
    exact lv_iload hexec hb hd (hl.2.2 _ _ hx).1 (kk ls hl hn (ex_cn trivial ho))
  case iload_n i =>
    simp only [ex_kok, decide_eq_true_eq] at hk
    subst hk
    obtain ⟨rfl, x, hx, rfl⟩ := ex_ldi_of h
    exact lv_iload_n hexec hb hd rfl (hl.2.2 _ _ hx).1 (kk ls hl hn (ex_cn trivial ho))
  case lload i =>
    simp only [ex_kok, decide_eq_true_eq] at hk
    subst hk
    obtain ⟨rfl, x, hx, rfl⟩ := ex_ldl_of h
    exact lv_lload hexec hb hd (hl.2.2 _ _ hx).1 (kk ls hl hn (ex_cn trivial ho))
  case lload_n i =>
    simp only [ex_kok, decide_eq_true_eq] at hk
    subst hk
    obtain ⟨rfl, x, hx, rfl⟩ := ex_ldl_of h
    exact lv_lload_n hexec hb hd rfl (hl.2.2 _ _ hx).1 (kk ls hl hn (ex_cn trivial ho))
  case aload i =>
    simp only [ex_kok, decide_eq_true_eq] at hk
    subst hk
    obtain ⟨rfl, x, hx, rfl⟩ := ex_lda_of h
    exact lv_aload hexec hb hd (hl.2.2 _ _ hx).1 (kk ls hl hn (ex_cn (hl.2.2 _ _ hx).2 ho))
  case aload_n i =>
    simp only [ex_kok, decide_eq_true_eq] at hk
    subst hk
    obtain ⟨rfl, x, hx, rfl⟩ := ex_lda_of h
    exact lv_aload_n hexec hb hd rfl (hl.2.2 _ _ hx).1 (kk ls hl hn (ex_cn (hl.2.2 _ _ hx).2 ho))
  case istore i =>
    simp only [ex_kok, decide_eq_true_eq] at hk
    subst hk
    obtain ⟨x, rfl, hi, rfl⟩ := ex_sti_of h
    exact lv_istore hexec hb hd hl.has (Nat.lt_of_lt_of_le hi hl.1) rfl (fun ls' h' => kk ls' (hl.st1 (v := .int x) hn hi trivial h') ((hn.clr i).set i _ (fun v e hc => by cases e; cases hc)) (ex_tl ho))
  case istore_n i =>
    simp only [ex_kok, decide_eq_true_eq] at hk
    subst hk
    obtain ⟨x, rfl, hi, rfl⟩ := ex_sti_of h
    exact lv_istore_n hexec hb hd rfl hl.has (Nat.lt_of_lt_of_le hi hl.1) rfl (fun ls' h' => kk ls' (hl.st1 (v := .int x) hn hi trivial h') ((hn.clr _).set _ _ (fun v e hc => by cases e; cases hc)) (ex_tl ho))
  case lstore i =>
    simp only [ex_kok, decide_eq_true_eq] at hk
    subst hk
    obtain ⟨x, rfl, hi, rfl⟩ := ex_stl_of h
    exact lv_lstore hexec hb hd hl.has (Nat.lt_of_lt_of_le hi hl.1) rfl (fun ls' h' => kk ls' (hl.st2 (v := .long x) hn hi trivial h') (((hn.clr _).set _ _ (fun v e hc => by cases e; exact ⟨x, rfl⟩)).set _ _ (fun v e hc => by cases e)) (ex_tl ho))
  case lstore_n i =>
    simp only [ex_kok, decide_eq_true_eq] at hk
    subst hk
    obtain ⟨x, rfl, hi, rfl⟩ := ex_stl_of h
    exact lv_lstore_n hexec hb hd rfl hl.has (Nat.lt_of_lt_of_le hi hl.1) rfl (fun ls' h' => kk ls' (hl.st2 (v := .long x) hn hi trivial h') (((hn.clr _).set _ _ (fun v e hc => by cases e; exact ⟨x, rfl⟩)).set _ _ (fun v e hc => by cases e)) (ex_tl ho))
  case astore i =>
    simp only [ex_kok, decide_eq_true_eq] at hk
    subst hk
    obtain ⟨x, rfl, hi, rfl⟩ := ex_sta_of h
    exact lv_astore hexec hb hd hl.has (Nat.lt_of_lt_of_le hi hl.1) rfl (fun ls' h' => kk ls' (hl.st1 (v := .ref x) hn hi (ho _ List.mem_cons_self) h') ((hn.clr i).set i _ (fun v e hc => by cases e; cases hc)) (ex_tl ho))
  case astore_n i =>
    simp only [ex_kok, decide_eq_true_eq] at hk
    subst hk
    obtain ⟨x, rfl, hi, rfl⟩ := ex_sta_of h
    exact lv_astore_n hexec hb hd rfl hl.has (Nat.lt_of_lt_of_le hi hl.1) rfl (fun ls' h' => kk ls' (hl.st1 (v := .ref x) hn hi (ho _ List.mem_cons_self) h') ((hn.clr _).set _ _ (fun v e hc => by cases e; cases hc)) (ex_tl ho))
  case iinc i n =>
    simp only [ex_kok, Bool.and_eq_true, decide_eq_true_eq] at hk
    obtain ⟨hk, rfl⟩ := hk
    simp only [ex_pure] at h
    split at h
    · next x hx =>
      split at h
      · next hi =>
        cases h
        obtain ⟨j, hj⟩ := List.getElem?_of_mem (ex_asc_mem (ad := ad) hx)
        exact lv_iinc hexec hb hd hl.has hj (by rw [hk]) (Nat.lt_of_lt_of_le hi hl.1) rfl (fun ls' h' => kk ls' (hl.st1 (v := .int (x + k)) hn hi trivial h') ((hn.clr i).set i _ (fun v e hc => by cases e; cases hc)) ho)
      · cases h
    · cases h
  case dup =>
    simp only [ex_kok, decide_eq_true_eq] at hk
    subst hk
    simp only [ex_pure] at h
    split at h
    · next v r =>
      split at h
      · next hc =>
        cases h
        exact lv_dup hexec hb hd (by rw [ex_cv_cat]; exact hc) (kk ls hl hn (ex_cn (ho _ List.mem_cons_self) ho))
      · cases h
    · cases h
  case dup2 =>
    simp only [ex_kok, decide_eq_true_eq] at hk
    subst hk
    simp only [ex_pure] at h
    split at h
    · next v u r =>
      split at h
      · next hc =>
        cases h
        exact lv_dup2_11 hexec hb hd (by rw [ex_cv_cat]; exact hc.1) (by rw [ex_cv_cat]; exact hc.2) (kk ls hl hn (ex_cn (ho _ List.mem_cons_self) (ex_cn (ho _ (List.mem_cons_of_mem _ List.mem_cons_self)) ho)))
      · cases h
    · cases h
  case pop =>
    simp only [ex_kok, decide_eq_true_eq] at hk
    subst hk
    simp only [ex_pure] at h
    split at h
    · next v r =>
      split at h
      · next hc =>
        cases h
        exact lv_pop hexec hb hd (by rw [ex_cv_cat]; exact hc) (kk ls hl hn (ex_tl ho))
      · cases h
    · cases h
  all_goals (simp only [ex_kok, decide_eq_true_eq] at hk; subst hk)
  case iadd => obtain ⟨rfl, x, y, r, rfl, rfl⟩ := ex_ii_of h; exact lv_iadd hexec hb hd (kk ls hl hn (ex_cn trivial (ex_tl (ex_tl ho))))
  case isub => obtain ⟨rfl, x, y, r, rfl, rfl⟩ := ex_ii_of h; exact lv_isub hexec hb hd (kk ls hl hn (ex_cn trivial (ex_tl (ex_tl ho))))
  case imul => obtain ⟨rfl, x, y, r, rfl, rfl⟩ := ex_ii_of h; exact lv_imul hexec hb hd (kk ls hl hn (ex_cn trivial (ex_tl (ex_tl ho))))
  case iand => obtain ⟨rfl, x, y, r, rfl, rfl⟩ := ex_ii_of h; exact lv_iand hexec hb hd (kk ls hl hn (ex_cn trivial (ex_tl (ex_tl ho))))
  case ior => obtain ⟨rfl, x, y, r, rfl, rfl⟩ := ex_ii_of h; exact lv_ior hexec hb hd (kk ls hl hn (ex_cn trivial (ex_tl (ex_tl ho))))
  case ixor => obtain ⟨rfl, x, y, r, rfl, rfl⟩ := ex_ii_of h; exact lv_ixor hexec hb hd (kk ls hl hn (ex_cn trivial (ex_tl (ex_tl ho))))
  case ishl => obtain ⟨rfl, x, y, r, rfl, rfl⟩ := ex_ii_of h; exact lv_ishl hexec hb hd (kk ls hl hn (ex_cn trivial (ex_tl (ex_tl ho))))
  case ishr => obtain ⟨rfl, x, y, r, rfl, rfl⟩ := ex_ii_of h; exact lv_ishr hexec hb hd (kk ls hl hn (ex_cn trivial (ex_tl (ex_tl ho))))
  case iushr => obtain ⟨rfl, x, y, r, rfl, rfl⟩ := ex_ii_of h; exact lv_iushr hexec hb hd rfl (kk ls hl hn (ex_cn trivial (ex_tl (ex_tl ho))))
  case ladd => obtain ⟨rfl, x, y, r, rfl, rfl⟩ := ex_ll_of h; exact lv_ladd hexec hb hd (kk ls hl hn (ex_cn trivial (ex_tl (ex_tl ho))))
  case lsub => obtain ⟨rfl, x, y, r, rfl, rfl⟩ := ex_ll_of h; exact lv_lsub hexec hb hd (kk ls hl hn (ex_cn trivial (ex_tl (ex_tl ho))))
  case lmul => obtain ⟨rfl, x, y, r, rfl, rfl⟩ := ex_ll_of h; exact lv_lmul hexec hb hd (kk ls hl hn (ex_cn trivial (ex_tl (ex_tl ho))))
  case land => obtain ⟨rfl, x, y, r, rfl, rfl⟩ := ex_ll_of h; exact lv_land hexec hb hd (kk ls hl hn (ex_cn trivial (ex_tl (ex_tl ho))))
  case lor => obtain ⟨rfl, x, y, r, rfl, rfl⟩ := ex_ll_of h; exact lv_lor hexec hb hd (kk ls hl hn (ex_cn trivial (ex_tl (ex_tl ho))))
  case idiv =>
    simp only [ex_pure] at h
    split at h
    · split at h
      · cases h
      · next hy => cases h; exact lv_idiv hexec hb hd hy (kk ls hl hn (ex_cn trivial (ex_tl (ex_tl ho))))
    · cases h
  case irem =>
    simp only [ex_pure] at h
    split at h
    · split at h
      · cases h
      · next hy => cases h; exact lv_irem hexec hb hd hy (kk ls hl hn (ex_cn trivial (ex_tl (ex_tl ho))))
    · cases h
  case ldiv =>
    simp only [ex_pure] at h
    split at h
    · split at h
      · cases h
      · next hy => cases h; exact lv_ldiv hexec hb hd hy (kk ls hl hn (ex_cn trivial (ex_tl (ex_tl ho))))
    · cases h
  case lrem =>
    simp only [ex_pure] at h
    split at h
    · split at h
      · cases h
      · next hy => cases h; exact lv_lrem hexec hb hd hy (kk ls hl hn (ex_cn trivial (ex_tl (ex_tl ho))))
    · cases h
  case lshl =>
    simp only [ex_pure] at h
    split at h
    · cases h; exact lv_lshl hexec hb hd rfl (kk ls hl hn (ex_cn trivial (ex_tl (ex_tl ho))))
    · cases h
  case lushr =>
    simp only [ex_pure] at h
    split at h
    · cases h; exact lv_lushr hexec hb hd rfl (kk ls hl hn (ex_cn trivial (ex_tl (ex_tl ho))))
    · cases h
  case lcmp =>
    simp only [ex_pure] at h
    split at h
    · cases h; exact W.lcmp hexec hb hd (kk ls hl hn (ex_cn trivial (ex_tl (ex_tl ho))))
    · cases h
  case i2l =>
    simp only [ex_pure] at h
    split at h
    · cases h; exact lv_i2l hexec hb hd rfl (kk ls hl hn (ex_cn trivial (ex_tl ho)))
    · cases h
  case l2i =>
    simp only [ex_pure] at h
    split at h
    · cases h; exact lv_l2i hexec hb hd rfl (kk ls hl hn (ex_cn trivial (ex_tl ho)))
    · cases h
  case i2b =>
    simp only [ex_pure] at h
    split at h
    · cases h; exact lv_i2b hexec hb hd rfl (kk ls hl hn (ex_cn trivial (ex_tl ho)))
    · cases h
  case i2c =>
    simp only [ex_pure] at h
    split at h
    · cases h; exact lv_i2c hexec hb hd rfl (kk ls hl hn (ex_cn trivial (ex_tl ho)))
    · cases h
end EXP
