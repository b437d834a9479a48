/-! The worlds, held against the heap -/
def ex_ty (ci k : Nat) : FieldType := match ci with
  | 0 => tyX0 k
  | 1 => tyX1 k
  | 2 => tyX2 k
  | 3 => tyX3 k
  | 4 => tyX4 k
  | 5 => tyX5 k
  | 6 => tyX6 k
  | 7 => tyX7 k
  | 8 => tyX9 k
  | _ => tyX10 k
def ex_val (ad : Nat → Nat) (w : ex_W) (i k : Nat) (ty : FieldType) : Value := match ty with
  | .long => .long (w.2.2.1 i k)
  | .object _ => va_rf ((w.2.2.2 i k).map ad)
  | .array _ => va_rf ((w.2.2.2 i k).map ad)
  | _ => .int (w.2.1 i k)
def ex_fs (ad : Nat → Nat) (w : ex_W) (i ci : Nat) : List Value := (List.range (ex_N ci)).map (fun k => ex_val ad w i k (ex_ty ci k))
def ex_ac (w : ex_W) (i : Nat) (ty : FieldType) : (Nat → Int32) ⊕ (Nat → Int64) ⊕ (Nat → UInt32) ⊕ (Nat → UInt64) ⊕ (Nat → Option Nat) := match ty with
  | .long => .inr (.inl (w.2.2.1 i))
  | _ => .inl (w.2.1 i)
def ex_cell (cA : FieldType → ClassId) (ad : Nat → Nat) (w : ex_W) (i : Nat) (sh : ex_Sh) : va_E := match sh with
  | .inl ci => .inr (ci, ex_fs ad w i ci)
  | .inr q => .inl (cA q.1, q.2, ex_ac w i q.1)
def ex_ce (cA : FieldType → ClassId) (ad : Nat → Nat) (w : ex_W) (i : Nat) : va_E := match w.1.1[i]? with
  | some sh => ex_cell cA ad w i sh
  | none => .inr (0, [])
/-- the things from ro on -/
def ex_ws (cA : FieldType → ClassId) (ro : Nat) (ad : Nat → Nat) (w : ex_W) : va_W := (List.range (w.1.1.length - ro)).map (fun j => (ad (ro + j), ex_ce cA ad w (ro + j)))
theorem ex_ws_get {cA : FieldType → ClassId} {ro : Nat} {ad : Nat → Nat} {w : ex_W} {a : Nat} {sh : ex_Sh} (h : w.1.1[a]? = some sh) (hr : ro ≤ a) : (ex_ws cA ro ad w)[a - ro]? = some (ad a, ex_cell cA ad w a sh) := by
  have hl := (List.getElem?_eq_some_iff.mp h).1
  have e : ro + (a - ro) = a := by omega
  rw [ex_ws, List.getElem?_map, List.getElem?_range (by omega)]
  show some (ad (ro + (a - ro)), ex_ce cA ad w (ro + (a - ro))) = _
  rw [e, ex_ce, h]
theorem ex_ws_len {cA : FieldType → ClassId} {ro : Nat} {ad : Nat → Nat} {w : ex_W} : (ex_ws cA ro ad w).length = w.1.1.length - ro := by simp [ex_ws]
theorem ex_ws_at {cA : FieldType → ClassId} {ro : Nat} {ad : Nat → Nat} {w : ex_W} {j : Nat} (h : j < w.1.1.length - ro) : (ex_ws cA ro ad w)[j]? = some (ad (ro + j), ex_ce cA ad w (ro + j)) := by
  rw [ex_ws, List.getElem?_map, List.getElem?_range h]; rfl
/-- the same thing in two worlds -/
theorem ex_cell_eq {cA : FieldType → ClassId} {ad ad' : Nat → Nat} {w w' : ex_W} {i : Nat} (h1 : w'.2.1 i = w.2.1 i) (h2 : w'.2.2.1 i = w.2.2.1 i) (h3 : w'.2.2.2 i = w.2.2.2 i) (h4 : ∀ k r, w.2.2.2 i k = some r → ad' r = ad r) (sh : ex_Sh) : ex_cell cA ad' w' i sh = ex_cell cA ad w i sh := by
  have hm : ∀ k, ((w'.2.2.2 i k).map ad') = ((w.2.2.2 i k).map ad) := fun k => by
    rw [h3]
    cases hr : w.2.2.2 i k with
    | none => rfl
    | some r => simp [h4 k r hr]
  have hv : ∀ k ty, ex_val ad' w' i k ty = ex_val ad w i k ty := fun k ty => by
    cases ty <;> simp only [ex_val, h1, h2, hm]
  cases sh with
  | inl ci => simp only [ex_cell, ex_fs, hv]
  | inr q =>
    simp only [ex_cell]
    congr 3
    unfold ex_ac
    split
    · rw [h2]
    · rw [h1]
theorem ex_ws_set {cA : FieldType → ClassId} {ro : Nat} {ad : Nat → Nat} {w w' : ex_W} {a : Nat} {sh : ex_Sh} (hs : w'.1.1 = w.1.1) (h : w.1.1[a]? = some sh) (hr : ro ≤ a) (h1 : ∀ i, i ≠ a → w'.2.1 i = w.2.1 i ∧ w'.2.2.1 i = w.2.2.1 i ∧ w'.2.2.2 i = w.2.2.2 i) :
    ex_ws cA ro ad w' = (ex_ws cA ro ad w).set (a - ro) (ad a, ex_cell cA ad w' a sh) := by
  have hl := (List.getElem?_eq_some_iff.mp h).1
  refine List.ext_getElem? fun j => ?_
  by_cases hj : j = a - ro
  · subst hj
    rw [List.getElem?_set_self (by rw [ex_ws_len]; omega)]
    exact ex_ws_get (by rw [hs]; exact h) hr
  · rw [List.getElem?_set_ne (fun q => hj q.symm)]
    by_cases hjl : j < w.1.1.length - ro
    · rw [ex_ws_at hjl, ex_ws_at (by rw [hs]; exact hjl)]
      have e := h1 (ro + j) (by omega)
      have e2 : ex_ce cA ad w' (ro + j) = ex_ce cA ad w (ro + j) := by
        unfold ex_ce
        rw [hs]
        split
        · exact ex_cell_eq e.1 e.2.1 e.2.2 (fun _ _ _ => rfl) _
        · rfl
      rw [e2]
    · rw [List.getElem?_eq_none (by rw [ex_ws_len, hs]; omega), List.getElem?_eq_none (by rw [ex_ws_len]; omega)]
/-- references lie within -/
def ex_rin (w : ex_W) : Prop := ∀ i k r, w.2.2.2 i k = some r → r < w.1.1.length
theorem ex_ws_push {cA : FieldType → ClassId} {ro : Nat} {ad ad' : Nat → Nat} {w w' : ex_W} {sh : ex_Sh} (hs : w'.1.1 = w.1.1 ++ [sh]) (hr : ro ≤ w.1.1.length) (hin : ex_rin w) (had : ∀ i, i < w.1.1.length → ad' i = ad i) (h1 : ∀ i, i < w.1.1.length → w'.2.1 i = w.2.1 i ∧ w'.2.2.1 i = w.2.2.1 i ∧ w'.2.2.2 i = w.2.2.2 i) :
    ex_ws cA ro ad' w' = ex_ws cA ro ad w ++ [(ad' w.1.1.length, ex_cell cA ad' w' w.1.1.length sh)] := by
  refine List.ext_getElem? fun j => ?_
  by_cases hjl : j < w.1.1.length - ro
  · rw [List.getElem?_append_left (by rw [ex_ws_len]; exact hjl), ex_ws_at hjl, ex_ws_at (by rw [hs, List.length_append]; omega), had _ (by omega)]
    have e := h1 (ro + j) (by omega)
    have e2 : ex_ce cA ad' w' (ro + j) = ex_ce cA ad w (ro + j) := by
      unfold ex_ce
      rw [hs, List.getElem?_append_left (by omega)]
      split
      · exact ex_cell_eq e.1 e.2.1 e.2.2 (fun k r hk => had r (hin _ _ _ hk)) _
      · rfl
    rw [e2]
  · by_cases hj : j = w.1.1.length - ro
    · subst hj
      rw [List.getElem?_append_right (by rw [ex_ws_len]; omega), ex_ws_len, Nat.sub_self]
      have := ex_ws_get (cA := cA) (ro := ro) (ad := ad') (w := w') (a := w.1.1.length) (sh := sh) (by rw [hs, List.getElem?_append_right (Nat.le_refl _), Nat.sub_self]; rfl) hr
      rw [this]; rfl
    · rw [List.getElem?_eq_none (by rw [ex_ws_len, hs, List.length_append]; simp; omega), List.getElem?_eq_none (by rw [List.length_append, ex_ws_len]; simp; omega)]
/-- of the things that were there before: their classes' names, fields -/
def ex_rn (ci : Nat) : String := match ci with
  | 100 => "PileTricks$Word"
  | _ => "java/lang/String"
def ex_rq (ci k : Nat) : String × String × String × FieldType := match ci, k with
  | 100, 0 => ("PileTricks$Word", "spelled", "Ljava/lang/String;", .object "java/lang/String")
  | 100, _ => ("PileTricks$Word", "value", "I", .int)
  | _, 0 => ("java/lang/String", "value", "[B", .array .byte)
  | _, _ => ("java/lang/String", "coder", "B", .byte)
def ex_ro1 (ad : Nat → Nat) (A : Nat → Prop) (w : ex_W) (i : Nat) (sh : ex_Sh) (U : State) (H : Heap) : Prop := match sh with
  | .inl ci => ci < 200 → va_O (ex_rn ci) (ad i) A U H ∧ ∀ k, k < 2 → va_OF (ex_rq ci k).1 (ex_rq ci k).2.1 (ex_rq ci k).2.2.1 (ex_val ad w i k (ex_rq ci k).2.2.2) (ad i) A U H
  | .inr q => va_T q.1 (ad i) q.2 (fun j => ex_val ad w i j q.1) A U H
theorem ex_ro1.moved {ad : Nat → Nat} {A : Nat → Prop} {w : ex_W} {i : Nat} {sh : ex_Sh} {u U : State} {H : Heap} (hvm : u.vm.Alike U.vm) (h : ex_ro1 ad A w i sh u H) : ex_ro1 ad A w i sh U H := by
  cases sh with
  | inl ci => exact fun hc => ⟨va_O.moved hvm (h hc).1, fun k hk => va_OF.moved hvm ((h hc).2 k hk)⟩
  | inr q => exact va_T.moved hvm h
theorem ex_ro1.kept {ad : Nat → Nat} {A : Nat → Prop} {w : ex_W} {i : Nat} {sh : ex_Sh} {U : State} {H H1 : Heap} (h : ex_ro1 ad A w i sh U H) (hq : ∀ a : Nat, a < H.size → ¬ A a → H1[a]? = H[a]?) : ex_ro1 ad A w i sh U H1 := by
  cases sh with
  | inl ci => exact fun hc => ⟨(h hc).1.kept hq, fun k hk => ((h hc).2 k hk).kept hq⟩
  | inr q => exact va_T.kept h hq
theorem ex_ro1.same {ad ad' : Nat → Nat} {A : Nat → Prop} {w w' : ex_W} {i : Nat} {sh : ex_Sh} {U : State} {H : Heap} (h : ex_ro1 ad A w i sh U H) (h0 : ad' i = ad i) (h1 : w'.2.1 i = w.2.1 i) (h2 : w'.2.2.1 i = w.2.2.1 i) (h3 : w'.2.2.2 i = w.2.2.2 i) (h4 : ∀ k r, w.2.2.2 i k = some r → ad' r = ad r) : ex_ro1 ad' A w' i sh U H := by
  have hm : ∀ k, ((w'.2.2.2 i k).map ad') = ((w.2.2.2 i k).map ad) := fun k => by
    rw [h3]
    cases hr : w.2.2.2 i k with
    | none => rfl
    | some r => simp [h4 k r hr]
  have hv : ∀ k ty, ex_val ad' w' i k ty = ex_val ad w i k ty := fun k ty => by
    cases ty <;> simp only [ex_val, h1, h2, hm]
  cases sh with
  | inl ci =>
    refine fun hc => ⟨by rw [h0]; exact (h hc).1, fun k hk => ?_⟩
    rw [h0, hv]; exact (h hc).2 k hk
  | inr q =>
    show va_T q.1 (ad' i) q.2 (fun j => ex_val ad' w' i j q.1) A U H
    simp only [h0, hv]
    exact h
/-- what stays through a method: the tables' classes, the old things, the statics, words on nest mates -/
def ex_tys (cA : FieldType → ClassId) : List (ClassId × FieldType) := [(cA .int, .int), (cA .byte, .byte), (cA .boolean, .boolean), (cA .long, .long)]
abbrev ex_St : Type := String × String × String × Nat × Nat × Int32
def ex_Fix (D : va_G) (cA : FieldType → ClassId) (z0 ro : Nat) (sts : List ex_St) (Ns : List Cond) (ad : Nat → Nat) (w : ex_W) (s : State) : Prop :=
  va_K D vwCl (ex_tys cA) s ∧ z0 ≤ s.heap.size ∧
  (∀ (i : Nat) (sh : ex_Sh), i < ro → w.1.1[i]? = some sh → ex_ro1 ad (fun q => z0 ≤ q) w i sh s s.heap) ∧
  (∀ (i : Nat) (q : ex_St), sts[i]? = some q → va_Z q.1 q.2.1 q.2.2.1 (ex_cv ad (ex_stv w q.2.2.2)) (fun q => z0 ≤ q) s s.heap) ∧
  (∀ x ∈ Ns, va_Nw x s) ∧
  vx_Zq Bundle.tN "UNASSIGNED_STACK" Bundle.steD (fun q => z0 ≤ q) s s.heap ∧ vx_Zq Bundle.tN "SUPPRESSED_SENTINEL" Bundle.listD (fun q => z0 ≤ q) s s.heap ∧ va_Nc "java/lang/IllegalArgumentException" "java/util/NoSuchElementException" s ∧
  (∀ i j, i < ro → j < ro → w.1.1[i]? = some (.inl 100) → w.1.1[j]? = some (.inl 100) → ad i = ad j → i = j)
/-- what changes -/
def ex_Rel (D : va_G) (cA : FieldType → ClassId) (z0 ro : Nat) (ad : Nat → Nat) (w : ex_W) (s : State) (H : Heap) (locs : List Loc) : Prop :=
  va_P D vwCl (ex_ws cA ro ad w) H ∧ va_D (fun q => z0 ≤ q) (ex_ws cA ro ad w) ∧ va_S (fun q => z0 ≤ q) s.heap H locs ∧ ex_rin w ∧ ro ≤ w.1.1.length
/-- two worlds that agree on the old things -/
def ex_agr (ro : Nat) (sts : List ex_St) (ad ad' : Nat → Nat) (w w' : ex_W) : Prop :=
  (∀ i, i < w.1.1.length → ad' i = ad i ∧ w'.1.1[i]? = w.1.1[i]?) ∧ (∀ i, i < ro → w'.2.1 i = w.2.1 i ∧ w'.2.2.1 i = w.2.2.1 i ∧ w'.2.2.2 i = w.2.2.2 i) ∧ w.1.1.length ≤ w'.1.1.length
theorem ex_agr.rf {ro : Nat} {sts : List ex_St} {ad : Nat → Nat} {w : ex_W} : ex_agr ro sts ad ad w w := ⟨fun _ _ => ⟨rfl, rfl⟩, fun _ _ => ⟨rfl, rfl, rfl⟩, Nat.le_refl _⟩
theorem ex_agr.tr {ro : Nat} {sts : List ex_St} {ad1 ad2 ad3 : Nat → Nat} {w1 w2 w3 : ex_W} (h : ex_agr ro sts ad1 ad2 w1 w2) (g : ex_agr ro sts ad2 ad3 w2 w3) : ex_agr ro sts ad1 ad3 w1 w3 :=
  ⟨fun i hi => ⟨(g.1 i (Nat.lt_of_lt_of_le hi h.2.2)).1.trans (h.1 i hi).1, (g.1 i (Nat.lt_of_lt_of_le hi h.2.2)).2.trans (h.1 i hi).2⟩, fun i hi => ⟨(g.2.1 i hi).1.trans (h.2.1 i hi).1, (g.2.1 i hi).2.1.trans (h.2.1 i hi).2.1, (g.2.1 i hi).2.2.trans (h.2.1 i hi).2.2⟩, Nat.le_trans h.2.2 g.2.2⟩
theorem ex_okv.mono {z z' : Nat} {v : Value} (h : ex_okv z v) (hz : z ≤ z') : ex_okv z' v := by
  cases v <;> first | exact trivial | exact Nat.lt_of_lt_of_le h hz | exact h.elim
theorem ex_cv_same {ad ad' : Nat → Nat} {z : Nat} {v : Value} (h : ex_okv z v) (had : ∀ i, i < z → ad' i = ad i) : ex_cv ad' v = ex_cv ad v := by
  cases v <;> first | rfl | (show Value.ref _ = Value.ref _; rw [had _ h])
theorem ex_map_same {ad ad' : Nat → Nat} {z : Nat} {st : List Value} (h : ∀ v ∈ st, ex_okv z v) (had : ∀ i, i < z → ad' i = ad i) : st.map (ex_cv ad') = st.map (ex_cv ad) := List.map_congr_left fun v hv => ex_cv_same (h v hv) had
theorem ex_cv_rf (ad : Nat → Nat) (o : Option Nat) : ex_cv ad (va_rf o) = va_rf (o.map ad) := by cases o <;> rfl
theorem ex_okv_rf {z : Nat} {o : Option Nat} (h : ∀ r, o = some r → r < z) : ex_okv z (va_rf o) := by
  cases o with
  | none => exact trivial
  | some r => exact h r rfl
/-- statics' things are old -/
def ex_sok (ro : Nat) (sts : List ex_St) : Prop := ∀ (i : Nat) (q : ex_St), sts[i]? = some q → q.2.2.2.2.1 < ro
theorem ex_Fix.agr {D : va_G} {cA : FieldType → ClassId} {z0 ro : Nat} {sts : List ex_St} {Ns : List Cond} {ad ad' : Nat → Nat} {w w' : ex_W} {s : State} (h : ex_Fix D cA z0 ro sts Ns ad w s) (g : ex_agr ro sts ad ad' w w') (hin : ex_rin w) (hr : ro ≤ w.1.1.length) (hso : ex_sok ro sts) : ex_Fix D cA z0 ro sts Ns ad' w' s := by
  obtain ⟨h1, h2, h3, h4, h5, h6, h7, h8, h9⟩ := h
  refine ⟨h1, h2, fun i sh hi hsh => ?_, fun i q hq => ?_, h5, h6, h7, h8, fun i j hi hj h10 h11 h12 => ?_⟩
  · have e := g.2.1 i hi
    have e2 := g.1 i (Nat.lt_of_lt_of_le hi hr)
    exact (h3 i sh hi (e2.2.symm.trans hsh)).same e2.1 e.1 e.2.1 e.2.2 (fun k r hk => (g.1 r (hin _ _ _ hk)).1)
  · have e := g.2.1 _ (hso i q hq)
    have e0 := (g.1 _ (Nat.lt_of_lt_of_le (hso i q hq) hr)).1
    have e1 : ex_cv ad' (ex_stv w' q.2.2.2) = ex_cv ad (ex_stv w q.2.2.2) := by
      unfold ex_stv
      split
      · show Value.ref _ = Value.ref _; rw [e0]
      · rw [ex_cv_rf, ex_cv_rf, e.2.2]
        cases hr2 : w.2.2.2 q.2.2.2.2.1 0 with
        | none => rfl
        | some r => simp [(g.1 r (hin _ _ _ hr2)).1]
      · rfl
    rw [e1]
    exact h4 i q hq
  · have e1 := g.1 i (Nat.lt_of_lt_of_le hi hr)
    have e2 := g.1 j (Nat.lt_of_lt_of_le hj hr)
    exact h9 i j hi hj (e1.2.symm.trans h10) (e2.2.symm.trans h11) (e1.1.symm.trans (h12.trans e2.1))
/-- .. and at a callee's start -/
theorem ex_Fix.at {D : va_G} {cA : FieldType → ClassId} {z0 ro : Nat} {sts : List ex_St} {Ns : List Cond} {ad : Nat → Nat} {w : ex_W} {s U : State} {H : Heap} {locs : List Loc} (h : ex_Fix D cA z0 ro sts Ns ad w s) (hS : va_S (fun q => z0 ≤ q) s.heap H locs) (hU : U.heap = H) (hvm : s.vm.Alike U.vm) (hN : ∀ x ∈ Ns, va_Nw x U) : ex_Fix D cA z0 ro sts Ns ad w U := by
  obtain ⟨h1, h2, h3, h4, h5, h6, h7, h8, h9⟩ := h
  refine ⟨va_K.moved hvm h1, by rw [hU]; exact Nat.le_trans h2 hS.1, fun i sh hi hsh => ?_, fun i q hq => ?_, hN, ?_, ?_, va_Nc.moved hvm h8, h9⟩
  · rw [hU]; exact ((h3 i sh hi hsh).moved hvm).kept hS.2.1
  · rw [hU]; exact (va_Z.moved hvm (h4 i q hq)).kept hS.2.1
  · rw [hU]; exact (vx_Zq.moved hvm h6).kept hS.2.1
  · rw [hU]; exact (vx_Zq.moved hvm h7).kept hS.2.1
