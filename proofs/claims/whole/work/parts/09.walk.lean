/-! What the small machine runs, the JVM runs: methods by contract, by induction on the small machine's fuel -/
def ex_nok (x : Cond) : Bool := match x with
  | .fieldLinkNest _ _ _ _ _ _ => true
  | .methodLinkNest _ _ _ _ => true
  | .declares _ => true
  | .castable _ _ => true
  | _ => false
theorem ex_nok_on {x : Cond} (h : ex_nok x = true) : x.onTables = true := by
  cases x <;> first | rfl | cases h
theorem ex_nok_warm {x : Cond} {s U : State} (h : ex_nok x = true) (hW : s.WarmedH U.vm) (hZ : va_Nw x s) : va_Nw x U := by
  cases x <;> first | exact va_Nw.warmF hW hZ | exact va_Nw.warmM hW hZ | exact va_Nw.warmD hW hZ | exact va_Nw.warmC hW hZ | cases h
/-- what the program and the tables owe -/
def ex_Hyp (l : Launch) (Ts Ns : List Cond) (mt : Nat → Option ex_M) (mp : Nat → List Nat) (tsl : List (String × Nat × Nat)) (ro : Nat) (sts : List ex_St) : Prop :=
  l.stackTraces = false ∧ (∀ mi M, mt mi = some M → ex_mok Ts Ns mt mp tsl ro sts mi M = true) ∧ (∀ (ci : Nat) (q : vw_C), vwCl[ci]? = some q → ∀ w ∈ u_ws q.1 q.2.1 q.2.2, w ∈ Ts) ∧ ex_sok ro sts ∧ (∀ w ∈ Ts, goodWord w = true) ∧ (∀ x ∈ Ns, ex_nok x = true) ∧
  (∀ q ∈ tsl, ∀ w ∈ vx_at0 q.1 q.2.1 (ex_en q.2.2) ex_es, (w ∈ Ts ∨ w ∈ Ns) ∧ vx_ot w = true) ∧
  (∀ mi M, mt mi = some M → (mp mi).getD 2 0 ≠ 3 → ex_cw M ∈ Ts) ∧ (Cond.instanceMethod objectInit ∈ Ts ∧ Cond.code objectInit ⟨#[0xb1]⟩ 1 none ∈ Ts) ∧ (Cond.native arraycopyName ∈ Ts ∧ Cond.static arraycopyName ∈ Ts ∧ Cond.initialized "java/lang/System" ∈ Ts) ∧ ∀ x, x < 2 → Cond.classLink "PileTricksLaw" (ex_ct x) (ex_en x) ∈ Ts ∧ Cond.castable (ex_en x) (ex_en x) ∈ Ns
def ex_rm (d mc ms : Nat) : Room := { frames := d + 6, cells := mc, slots := ms, locals := 64 * d + 140 }
def ex_wd (Ts : List Cond) (M : ex_M) : List Cond := ex_cw M :: Ts
def ex_pc (L : List ex_R) : Nat := match L with
  | x :: _ => x.1
  | [] => 0
def ex_Pc (D : va_G) (cA : FieldType → ClassId) (z0 ro : Nat) (sts : List ex_St) (Ns : List Cond) (ad : Nat → Nat) (w : ex_W) (as : List Value) : Array Value → State → Prop := fun a U =>
  a = (as.map (ex_cv ad)).toArray ∧ ex_Fix D cA z0 ro sts Ns ad w U ∧ va_P D vwCl (ex_ws cA ro ad w) U.heap
/-- the world behind a call -/
def ex_Wn (D : va_G) (cA : FieldType → ClassId) (z0 ro : Nat) (sts : List ex_St) (ad ad' : Nat → Nat) (w w' : ex_W) (t : State) : Prop :=
  ex_agr ro sts ad ad' w w' ∧ va_P D vwCl (ex_ws cA ro ad' w') t.heap ∧ va_D (fun q => z0 ≤ q) (ex_ws cA ro ad' w') ∧ ex_rin w' ∧ ro ≤ w'.1.1.length
def ex_Qc (D : va_G) (cA : FieldType → ClassId) (z0 ro : Nat) (sts : List ex_St) (ad : Nat → Nat) (w w' : ex_W) (v : Option Value) : Array Value → State → Outcome → State → Prop := fun _ st o t =>
  (∃ ad' : Nat → Nat, o = .returned (v.map (ex_cv ad')) ∧ (∀ x, v = some x → ex_okv w'.1.1.length x) ∧ ex_Wn D cA z0 ro sts ad ad' w w' t) ∧ va_F (fun q => z0 ≤ q) st t
def ex_Xc (D : va_G) (cA : FieldType → ClassId) (z0 ro : Nat) (sts : List ex_St) (ad : Nat → Nat) (w w' : ex_W) (e : Nat) : String → State → State → Prop := fun E st t =>
  E = ex_en e ∧ (∃ ad' : Nat → Nat, ex_Wn D cA z0 ro sts ad ad' w w' t) ∧ va_F (fun q => z0 ≤ q) st t
/-- a frame's surroundings -/
def ex_Cx (p : Program) (l : Launch) (R : Room) (s : State) (m : MethodId) (args : Array Value) (meth : Method) (c : Code) (Ts : List Cond) (M : ex_M) (d : Nat) : Prop :=
  p.tables.exec = Jvm.exec ∧ c.code = M.2.1 ∧ c.maxLocals = M.2.2.1 ∧ s.vm.findClass M.2.2.2.2.1 = some m.cls ∧ (∀ w ∈ Ts, w.before args s = true) ∧ meth.locks = false ∧ ((M.1.name == "<init>") = true → meth.name = "<init>") ∧ c.exceptionTable.toList = tableOf M.2.2.2.2.2.2 ∧ d + 6 ≤ R.frames ∧ 64 * d + 140 ≤ R.locals
/-- the walk of a frame -/
def ex_AA (l : Launch) (Ts Ns : List Cond) (mt : Nat → Option ex_M) (mp : Nat → List Nat) (tsl : List (String × Nat × Nat)) (ro : Nat) (sts : List ex_St) (n : Nat) : Prop :=
  ∀ (d mi : Nat) (M : ex_M) (L : List ex_R) (lo : ex_Lo) (st : List Value) (w : ex_W) (E : ex_E), mt mi = some M → ex_run ro mt n d M.2.2.2.2.2.1 L lo st w = some E → ex_lok Ts Ns mt mp tsl ro sts M L = true →
  ∀ (p : Program) (e : Env) (R : Room) (s : State) (m : MethodId) (args : Array Value) (below : List Frame) (meth : Method) (c : Code) (H : Heap) (locs : List Loc) (ls : Array Slot) (ad : Nat → Nat) (D : va_G) (cA : FieldType → ClassId) (z0 c0 s0 : Nat) (Q : State → Prop),
  ex_Cx p l R s m args meth c Ts M d → ex_Fix D cA z0 ro sts Ns ad w s → ex_Rel D cA z0 ro ad w s H locs → ex_LR ad w.1.1.length M.2.2.1 lo ls → ex_nod lo → (∀ v ∈ st, ex_okv w.1.1.length v) → c0 ≤ w.1.2.1 → s0 ≤ w.1.2.2 → E.2.2.2.1.2.1 - c0 ≤ R.cells → E.2.2.2.1.2.2 - s0 ≤ R.slots →
  (∀ (ad1 : Nat → Nat) (H1 : Heap) (locs1 : List Loc) (ls1 : Array Slot), ex_Rel D cA z0 ro ad1 E.2.2.2 s H1 locs1 → ex_agr ro sts ad ad1 w E.2.2.2 → ex_LR ad1 E.2.2.2.1.1.length M.2.2.1 E.2.1 ls1 → (∀ v ∈ E.2.2.1, ex_okv E.2.2.2.1.1.length v) → ex_lok Ts Ns mt mp tsl ro sts M E.1 = true →
    W p l e R s m args below meth c H1 locs1 (E.2.2.2.1.2.1 - c0) (E.2.2.2.1.2.2 - s0) Q (F0 m (ex_pc E.1) ls1 (E.2.2.1.map (ex_cv ad1)))) →
  W p l e R s m args below meth c H locs (w.1.2.1 - c0) (w.1.2.2 - s0) Q (F0 m (ex_pc L) ls (st.map (ex_cv ad)))
theorem ex_blind {D : va_G} {cA : FieldType → ClassId} {z0 ro : Nat} {sts : List ex_St} {Ns : List Cond} {ad : Nat → Nat} {w : ex_W} {as : List Value} (hN : ∀ x ∈ Ns, ex_nok x = true) : FrameBlind (ex_Pc D cA z0 ro sts Ns ad w as) := by
  intro a U g mk h
  obtain ⟨h1, h2, h3⟩ := h
  exact ⟨h1, h2.at (U := U.calling g mk a) (H := U.heap) (locs := []) va_S.rf rfl (Vm.Alike.refl U.vm) (fun x hx => va_Nw.same (u := U) (ex_nok_on (hN x hx)) rfl (h2.2.2.2.2.1 x hx)), h3⟩
theorem ex_sl_get {ad : Nat → Nat} : ∀ (as : List Value) (i : Nat) (v : Value), (ex_sl as)[i]? = some (some v) → (lg_sl (as.map (ex_cv ad)))[i]? = some (.val (ex_cv ad v)) ∧ v ∈ as
  | [], i, v, h => by simp [ex_sl] at h
  | a :: as, i, v, h => by
    have e1 : ex_sl (a :: as) = (if a.category = 2 then [some a, none] else [some a]) ++ ex_sl as := rfl
    have e2 : lg_sl ((a :: as).map (ex_cv ad)) = (if (ex_cv ad a).category = 2 then [.val (ex_cv ad a), .second] else [.val (ex_cv ad a)]) ++ lg_sl (as.map (ex_cv ad)) := rfl
    rw [e1] at h
    rw [e2, ex_cv_cat]
    by_cases hc : a.category = 2
    · rw [if_pos hc] at h ⊢
      match i, h with
      | 0, h => cases h; exact ⟨rfl, List.mem_cons_self⟩
      | 1, h => cases h
      | i + 2, h =>
        have ih := ex_sl_get (ad := ad) as i v h
        exact ⟨ih.1, List.mem_cons_of_mem _ ih.2⟩
    · rw [if_neg hc] at h ⊢
      match i, h with
      | 0, h => cases h; exact ⟨rfl, List.mem_cons_self⟩
      | i + 1, h =>
        have ih := ex_sl_get (ad := ad) as i v h
        exact ⟨ih.1, List.mem_cons_of_mem _ ih.2⟩
theorem ex_sl_len {ad : Nat → Nat} : ∀ (as : List Value), (lg_sl (as.map (ex_cv ad))).length = (ex_sl as).length
  | [] => rfl
  | a :: as => by
    have e1 : ex_sl (a :: as) = (if a.category = 2 then [some a, none] else [some a]) ++ ex_sl as := rfl
    have e2 : lg_sl ((a :: as).map (ex_cv ad)) = (if (ex_cv ad a).category = 2 then [.val (ex_cv ad a), .second] else [.val (ex_cv ad a)]) ++ lg_sl (as.map (ex_cv ad)) := rfl
    rw [e1, e2, ex_cv_cat, List.length_append, List.length_append, ex_sl_len as]
    by_cases hc : a.category = 2
    · rw [if_pos hc, if_pos hc]; rfl
    · rw [if_neg hc, if_neg hc]; rfl
theorem ex_ent_get {n : Nat} {as : List Value} {i : Nat} {v : Value} (h : (ex_ent n as)[i]? = some (some v)) : (ex_sl as)[i]? = some (some v) := by
  by_cases hi : i < (ex_sl as).length
  · rw [ex_ent, List.getElem?_append_left hi] at h; exact h
  · rw [ex_ent, List.getElem?_append_right (by omega), List.getElem?_replicate] at h
    split at h <;> cases h
theorem ex_ent_LR {ad : Nat → Nat} {z n : Nat} {as : List Value} (hl : (ex_sl as).length ≤ n) (ho : ∀ v ∈ as, ex_okv z v) : ex_LR ad z n (ex_ent n as) ((lg_sl (as.map (ex_cv ad)) ++ List.replicate (n - (lg_sl (as.map (ex_cv ad))).length) Slot.unset).toArray) := by
  have he := lv_entry (as.map (ex_cv ad)) (n := n) (by rw [ex_sl_len]; exact hl)
  refine ⟨by rw [ex_ent, List.length_append, List.length_replicate]; omega, ⟨he.1, he.2.1, fun _ hq => by cases hq⟩, fun i v hv => ?_⟩
  have g := ex_sl_get (ad := ad) as i v (ex_ent_get hv)
  refine ⟨?_, ho v g.2⟩
  rw [List.getElem?_toArray, List.getElem?_append_left (List.getElem?_eq_some_iff.mp g.1).1]
  exact g.1
theorem ex_ent_nod {n : Nat} {as : List Value} (h : ∀ v ∈ as, v.category = 2 → ∃ x, v = .long x) : ex_nod (ex_ent n as) := fun i v hv hc =>
  h v (ex_sl_get (ad := id) as i v (ex_ent_get hv)).2 hc
/-- abstract values are ints, longs, references, null -/
def ex_vok (v : Value) : Prop := v.category = 2 → ∃ x, v = .long x
theorem ex_okv_vok {z : Nat} {v : Value} (h : ex_okv z v) : ex_vok v := by
  cases v <;> first | (intro hc; cases hc; done) | (intro hc; exact ⟨_, rfl⟩) | exact h.elim
section EXW
variable {l : Launch} {Ts Ns : List Cond} {mt : Nat → Option ex_M} {mp : Nat → List Nat} {tsl : List (String × Nat × Nat)} {ro : Nat} {sts : List ex_St}
/-- a body that ends with a return -/
theorem ex_ends {n d mi : Nat} {M : ex_M} {row : ex_R} {L1 : List ex_R} {lo1 : ex_Lo} {st1 : List Value} {w w1 w' : ex_W} {as : List Value} {v : Option Value} {D : va_G} {cA : FieldType → ClassId} {z0 : Nat} {ad : Nat → Nat} (hH : ex_Hyp l Ts Ns mt mp tsl ro sts) (hA : ex_AA l Ts Ns mt mp tsl ro sts n) (hM : mt mi = some M) (hl : (ex_sl as).length ≤ M.2.2.1)
    (hr : ex_run ro mt n d M.2.2.2.2.2.1 (M.2.2.2.2.2.1.getD 0 []) (ex_ent M.2.2.1 as) [] w = some (row :: L1, lo1, st1, w1)) (hf : ex_fin M.2.2.2.1 row st1 w1 = some (.inl v, w')) (ho : ∀ v ∈ as, ex_okv w.1.1.length v) (hin : ex_rin w) (hro : ro ≤ w.1.1.length) (hD : va_D (fun q => z0 ≤ q) (ex_ws cA ro ad w))
    {p : Program} {e : Env} {s : State} {m : MethodId} {below : List Frame} {meth : Method} {c : Code} (hC : ex_Cx p l (ex_rm d (w'.1.2.1 - w.1.2.1) (w'.1.2.2 - w.1.2.2)) s m (as.map (ex_cv ad)).toArray meth c Ts M d) (hret : meth.sig.returnType = M.2.2.2.1) (hP : ex_Pc D cA z0 ro sts Ns ad w as (as.map (ex_cv ad)).toArray s) :
    W p l e (ex_rm d (w'.1.2.1 - w.1.2.1) (w'.1.2.2 - w.1.2.2)) s m (as.map (ex_cv ad)).toArray below meth c s.heap [] 0 0 (MQ below (ex_Qc D cA z0 ro sts ad w w' v) (as.map (ex_cv ad)).toArray s (w'.1.2.1 - w.1.2.1) (w'.1.2.2 - w.1.2.2) (fun q => z0 ≤ q)) (entryFrame m (as.map (ex_cv ad)).toArray M.2.2.1) := by
  have hmok := hH.2.1 mi M hM
  simp only [ex_mok, Bool.and_eq_true, decide_eq_true_eq] at hmok
  obtain ⟨⟨⟨⟨⟨⟨⟨hmw, -⟩, -⟩, -⟩, -⟩, -⟩, hft⟩, hall⟩ := hmok
  have hpc : ex_pc (M.2.2.2.2.2.1.getD 0 []) = 0 := by
    revert hft
    unfold ex_ft ex_pc
    cases M.2.2.2.2.2.1.getD 0 [] with
    | nil => intro h; cases h
    | cons x r => intro h; exact of_decide_eq_true h
  have hfm := ex_fin_mono hf
  have hmm := ex_mono ro mt n _ _ _ _ _ _ _ hr
  have hlocks := hC.2.2.2.2.2.1
  rw [lg_entry_eq]
  have hS0 : va_S (fun q => z0 ≤ q) s.heap s.heap [] := va_S.rf
  have key := hA d mi M _ _ [] w _ hM hr (ex_blk hall 0) p e _ s m _ below meth c s.heap [] _ ad D cA z0 w.1.2.1 w.1.2.2 (MQ below (ex_Qc D cA z0 ro sts ad w w' v) (as.map (ex_cv ad)).toArray s (w'.1.2.1 - w.1.2.1) (w'.1.2.2 - w.1.2.2) (fun q => z0 ≤ q)) hC hP.2.1 ⟨hP.2.2, hD, hS0, hin, hro⟩ (ex_ent_LR hl ho) (ex_ent_nod (fun v h => ex_okv_vok (ho v h))) (fun _ h => by cases h) (Nat.le_refl _) (Nat.le_refl _) (Nat.sub_le_sub_right hfm.1 _) (Nat.sub_le_sub_right hfm.2 _)
  rw [hpc, Nat.sub_self, Nat.sub_self] at key
  refine key fun ad1 H1 locs1 ls1 hR1 hag hL1 hst1 hlok => ?_
  have hq : ∀ t : State, t.heap = H1 → w' = w1 → (∀ x, v = some x → ex_okv w1.1.1.length x) → ex_Qc D cA z0 ro sts ad w w' v (as.map (ex_cv ad)).toArray s (.returned (v.map (ex_cv ad1))) t := fun t ht e hx => by
    subst e
    exact ⟨⟨ad1, rfl, hx, hag, by rw [ht]; exact hR1.1, hR1.2.1, hR1.2.2.2.1, hR1.2.2.2.2⟩, hR1.2.2.1.F ht⟩
  simp only [ex_lok, ex_rok, Bool.and_eq_true, decide_eq_true_eq] at hlok
  obtain ⟨⟨hdec, hlen⟩, -⟩ := hlok
  unfold ex_fin at hf
  split at hf
  · next hins =>
    split at hf
    · split at hf
      · next hrt =>
        cases hf
        rw [hins] at hdec hlen
        simp only [decide_eq_true_eq] at hlen
        rw [hlen] at hdec
        exact W.vret hC.1 hC.2.1 (hret.trans hrt) (fun t ht _ => hq t ht rfl (fun x hx => by cases hx)) hR1.2.2.1.2.2 hdec hlocks
      · cases hf
    · cases hf
  · next hins =>
    split at hf
    · next x =>
      split at hf
      · next hfit =>
        cases hf
        rw [hins] at hdec hlen
        simp only [decide_eq_true_eq] at hlen
        rw [hlen] at hdec
        have hq' := fun t ht (_ : s.WarmedH t.vm) => hq t ht rfl (fun y hy => by cases hy; exact trivial)
        rcases hfit with hr | ⟨hr, hx⟩ | ⟨hr, hx⟩ | ⟨hr, hx⟩
        · exact W.iret hC.1 hC.2.1 (hret.trans hr) hq' hR1.2.2.1.2.2 hdec hlocks
        · exact W.zret (ty := .boolean) hC.1 hC.2.1 (hret.trans hr) (ex_nz x hx).1 hq' hR1.2.2.1.2.2 hdec hlocks
        · exact W.zret (ty := .byte) hC.1 hC.2.1 (hret.trans hr) (by have h9 := pk_nb x; rw [hx] at h9; exact h9) hq' hR1.2.2.1.2.2 hdec hlocks
        · exact W.zret (ty := .char) hC.1 hC.2.1 (hret.trans hr) (by have h9 := pk_nc x; rw [hx] at h9; exact h9) hq' hR1.2.2.1.2.2 hdec hlocks
      · cases hf
    · cases hf
  · next hins =>
    split at hf
    · next x =>
      split at hf
      · next hrt =>
        cases hf
        rw [hins] at hdec hlen
        simp only [decide_eq_true_eq] at hlen
        rw [hlen] at hdec
        exact W.lret hC.1 hC.2.1 (hret.trans hrt) (fun t ht _ => hq t ht rfl (fun y hy => by cases hy; exact trivial)) hR1.2.2.1.2.2 hdec hlocks
      · cases hf
    · cases hf
  · split at hf
    · split at hf <;> cases hf
    · cases hf
  · cases hf
end EXW
