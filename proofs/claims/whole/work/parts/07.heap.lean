/-! The small machine's instructions that need the world, held against the JVM -/
def ex_tc (ty : FieldType) : Nat := match ty with
  | .long => 1
  | .object _ => 2
  | .array _ => 2
  | .boolean => 3
  | .int => 0
  | _ => 4
theorem ex_tyok : ∀ (ci : Nat) (q : vw_C), vwCl[ci]? = some q → (∀ k, k < q.2.2 → parseFieldDescriptor (q.2.1 k).2.2.1 = some (ex_ty ci k)) ∧ (∀ a, a < q.2.2 → ∀ b, b < q.2.2 → a ≠ b → (q.2.1 a).2.1 ≠ (q.2.1 b).2.1) := by
  intro ci q h
  match ci, h with
  | 0, h => cases h; exact ⟨tyX0_ok, nmX0⟩
  | 1, h => cases h; exact ⟨tyX1_ok, nmX1⟩
  | 2, h => cases h; exact ⟨tyX2_ok, nmX2⟩
  | 3, h => cases h; exact ⟨tyX3_ok, nmX3⟩
  | 4, h => cases h; exact ⟨tyX4_ok, nmX4⟩
  | 5, h => cases h; exact ⟨tyX5_ok, nmX5⟩
  | 6, h => cases h; exact ⟨tyX6_ok, nmX6⟩
  | 7, h => cases h; exact ⟨tyX7_ok, nmX7⟩
  | 8, h => cases h; exact ⟨tyX9_ok, nmX9⟩
  | 9, h => cases h; exact ⟨tyX10_ok, nmX10⟩
  | n + 10, h => exact absurd h (by simp)
theorem ex_tcs : ∀ ci, ci < 10 → ∀ k, k < 66 → ex_tc (ex_ty ci k) ≤ 3 := by decide +kernel
theorem ex_N_of {ci : Nat} {q : vw_C} (h : vwCl[ci]? = some q) : ex_N ci = q.2.2 := by rw [ex_N, h]
theorem ex_N66 {ci k : Nat} (hk : k < ex_N ci) : ci < 10 ∧ k < 66 := by
  unfold ex_N at hk
  split at hk
  · next q hq =>
    have hl : ci < 10 := (List.getElem?_eq_some_iff.mp hq).1
    refine ⟨hl, ?_⟩
    have : ∀ c, c < 10 → ∀ q : vw_C, vwCl[c]? = some q → q.2.2 ≤ 66 := by
      intro c hc q hq
      rcases (show c = 0 ∨ c = 1 ∨ c = 2 ∨ c = 3 ∨ c = 4 ∨ c = 5 ∨ c = 6 ∨ c = 7 ∨ c = 8 ∨ c = 9 by omega) with rfl | rfl | rfl | rfl | rfl | rfl | rfl | rfl | rfl | rfl <;> cases hq <;> decide
    exact Nat.lt_of_lt_of_le hk (this ci hl q hq)
  · exact absurd hk (Nat.not_lt_zero _)
theorem ex_vpin {j : Int32} {n : Nat} (h : ex_in j n) : vp_in j n := fun q => q.elim h.1 (fun q => Nat.not_le.mpr h.2 q)
theorem ex_fs_get {ad : Nat → Nat} {w : ex_W} {i ci k : Nat} (hk : k < ex_N ci) : (ex_fs ad w i ci)[k]? = some (ex_val ad w i k (ex_ty ci k)) := by
  rw [ex_fs, List.getElem?_map, List.getElem?_range hk]; rfl
theorem ex_vpV {fs : List Value} {j : Nat} {v : Value} (h : fs[j]? = some v) : vp_V fs j = v := by
  rw [vp_V, List.getD_eq_getElem?_getD, h]; rfl
theorem ex_fs_set {ad : Nat → Nat} {w w' : ex_W} {i ci k : Nat} {v : Value} (h1 : ∀ j, j ≠ k → w'.2.1 i j = w.2.1 i j ∧ w'.2.2.1 i j = w.2.2.1 i j ∧ w'.2.2.2 i j = w.2.2.2 i j) (h2 : ex_val ad w' i k (ex_ty ci k) = v) : ex_fs ad w' i ci = (ex_fs ad w i ci).set k v := by
  refine List.ext_getElem? fun j => ?_
  by_cases hj : j < ex_N ci
  · rw [ex_fs_get hj]
    by_cases hjk : k = j
    · subst hjk
      rw [List.getElem?_set_self (by rw [ex_fs, List.length_map, List.length_range]; exact hj), h2]
    · rw [List.getElem?_set_ne hjk, ex_fs_get hj]
      have e := h1 j (fun q => hjk q.symm)
      have : ex_val ad w' i j (ex_ty ci j) = ex_val ad w i j (ex_ty ci j) := by
        cases ex_ty ci j <;> simp only [ex_val, e.1, e.2.1, e.2.2]
      rw [this]
  · rw [List.getElem?_eq_none (by rw [ex_fs, List.length_map, List.length_range]; omega), List.getElem?_eq_none (by rw [List.length_set, ex_fs, List.length_map, List.length_range]; omega)]
theorem ex_pv_ok {w : ex_W} (hin : ex_rin w) (a k t : Nat) : ex_okv w.1.1.length (ex_pv w a k t) := by
  unfold ex_pv
  split
  · exact trivial
  · exact ex_okv_rf (fun r hr => hin _ _ _ hr)
  · exact trivial
theorem ex_pv_val {w : ex_W} {ad : Nat → Nat} {a k : Nat} {ty : FieldType} : ex_cv ad (ex_pv w a k (ex_tc ty)) = ex_val ad w a k ty := by
  cases ty <;> first | rfl | exact ex_cv_rf _ _
/-- what a row of such an instruction must be -/
def ex_hok (Ts Ns : List Cond) (own : String) (ini : Bool) (ro : Nat) (sts : List ex_St) (ins : Instr) (len : Nat) (r : List Nat) (k : Int32) : Bool := match ins with
  | .getfield idx => decide (len = 3) && (if r.getD 0 0 < 100 then (match vwCl[r.getD 0 0]? with
      | some q => decide (r.getD 1 0 < q.2.2) && decide (r.getD 2 0 = ex_tc (ex_ty (r.getD 0 0) (r.getD 1 0))) && (match r.getD 4 0 with
        | 0 => decide (Ts[r.getD 3 0]? = some (.fieldLink own idx (q.2.1 (r.getD 1 0)).1 (q.2.1 (r.getD 1 0)).2.1 (q.2.1 (r.getD 1 0)).2.2.1))
        | _ => decide (Ns[r.getD 3 0]? = some (.fieldLinkNest own idx (q.2.1 (r.getD 1 0)).1 (q.2.1 (r.getD 1 0)).2.1 (q.2.1 (r.getD 1 0)).2.2.1 "PileTricks")))
      | none => false)
    else decide (r.getD 1 0 < 2 ∧ r.getD 0 0 < 200) && decide (r.getD 2 0 = ex_tc (ex_rq (r.getD 0 0) (r.getD 1 0)).2.2.2) && (match r.getD 4 0 with
        | 0 => decide (Ts[r.getD 3 0]? = some (.fieldLink own idx (ex_rq (r.getD 0 0) (r.getD 1 0)).1 (ex_rq (r.getD 0 0) (r.getD 1 0)).2.1 (ex_rq (r.getD 0 0) (r.getD 1 0)).2.2.1))
        | _ => decide (Ns[r.getD 3 0]? = some (.fieldLinkNest own idx (ex_rq (r.getD 0 0) (r.getD 1 0)).1 (ex_rq (r.getD 0 0) (r.getD 1 0)).2.1 (ex_rq (r.getD 0 0) (r.getD 1 0)).2.2.1 "PileTricks"))))
  | .putfield idx => decide (len = 3) && decide (r.getD 2 0 ≤ 3) && (match vwCl[r.getD 0 0]? with
      | some q => decide (r.getD 1 0 < q.2.2) && decide (r.getD 2 0 = ex_tc (ex_ty (r.getD 0 0) (r.getD 1 0))) && (match r.getD 4 0 with
        | 0 => decide (Ts[r.getD 3 0]? = some (.fieldLink own idx (q.2.1 (r.getD 1 0)).1 (q.2.1 (r.getD 1 0)).2.1 (q.2.1 (r.getD 1 0)).2.2.1)) && decide ((q.2.1 (r.getD 1 0)).2.2.2 = false)
        | 1 => decide (Ns[r.getD 3 0]? = some (.fieldLinkNest own idx (q.2.1 (r.getD 1 0)).1 (q.2.1 (r.getD 1 0)).2.1 (q.2.1 (r.getD 1 0)).2.2.1 "PileTricks")) && decide ((q.2.1 (r.getD 1 0)).2.2.2 = false)
        | _ => ini && decide (Ts[r.getD 3 0]? = some (.fieldLink own idx (q.2.1 (r.getD 1 0)).1 (q.2.1 (r.getD 1 0)).2.1 (q.2.1 (r.getD 1 0)).2.2.1)) && decide ((q.2.1 (r.getD 1 0)).2.2.2 = true) && decide ((q.2.1 (r.getD 1 0)).1 = own))
      | none => false)
  | .newarray t => decide (len = 2) && ex_at (newarray.typeOf t) && decide (Ts[r.getD 0 0]? = some (.arrayClass (newarray.typeOf t)))
  | .new idx => decide (len = 3) && (match vwCl[r.getD 1 0]? with
      | some q => decide (Ts[r.getD 2 0]? = some (.classLink own idx q.1)) && decide (Ts[r.getD 3 0]? = some (.instantiable q.1 q.2.2)) && decide (Ts[r.getD 4 0]? = some (.initialized q.1))
      | none => false)
  | .getstatic idx => decide (len = 3) && (match sts[r.getD 2 0]? with
      | some q => decide (q.2.2.2 = (r.getD 0 0, r.getD 1 0, k)) && (match r.getD 4 0 with
        | 0 => decide (Ts[r.getD 3 0]? = some (.fieldLink own idx q.1 q.2.1 q.2.2.1))
        | _ => decide (Ns[r.getD 3 0]? = some (.fieldLinkNest own idx q.1 q.2.1 q.2.2.1 "PileTricks")))
      | none => false)
  | .ldc idx => decide (len = 2) && decide (Ts[r.getD 0 0]? = some (.constant own idx k))
  | .ldc_w idx => decide (len = 3) && decide (Ts[r.getD 0 0]? = some (.constant own idx k))
  | .ldc2_w idx => decide (len = 3) && decide (Ts[r.getD 1 0]? = some (.constantLong own idx (lN (r.getD 0 0))))
  | _ => decide (len = 1)
section EXH
variable {p : Program} {l : Launch} {e : Env} {R : Room} {s : State} {m : MethodId} {args : Array Value} {below : List Frame} {meth : Method} {c : Code} {H : Heap} {locs : List Loc} {Q : State → Prop}
variable {cc : ByteArray} {pc : Nat} {ls : Array Slot} {ad : Nat → Nat} {D : va_G} {cA : FieldType → ClassId} {z0 ro c0 s0 : Nat} {sts : List ex_St} {Ts Ns : List Cond} {own : String} {w : ex_W} {r : List Nat} {k : Int32} {st st' : List Value} {w' : ex_W} {len : Nat} {ini : Bool}
theorem ex_h_getfield {idx : Nat} (hexec : p.tables.exec = Jvm.exec) (hb : c.code = cc) (hown : s.vm.findClass own = some m.cls) (hts : ∀ w ∈ Ts, w.before args s = true) (hU : ∀ (ci : Nat) (q : vw_C), vwCl[ci]? = some q → ∀ w ∈ u_ws q.1 q.2.1 q.2.2, w ∈ Ts)
    (hF : ex_Fix D cA z0 ro sts Ns ad w s) (hR : ex_Rel D cA z0 ro ad w s H locs) (h : ex_heap ro (.getfield idx) r k st w = some (st', w')) (hk : ex_hok Ts Ns own ini ro sts (.getfield idx) len r k = true) (hd : decode cc pc = .ok (.getfield idx, len)) (ho : ∀ v ∈ st, ex_okv w.1.1.length v)
    (kk : w' = w → (∀ v ∈ st', ex_okv w.1.1.length v) → W p l e R s m args below meth c H locs (w.1.2.1 - c0) (w.1.2.2 - s0) Q (F0 m (pc + len) ls (st'.map (ex_cv ad)))) :
    W p l e R s m args below meth c H locs (w.1.2.1 - c0) (w.1.2.2 - s0) Q (F0 m pc ls (st.map (ex_cv ad))) := by
  simp only [ex_heap] at h
  split at h
  · next a st1 =>
    split at h
    · next ci hsh =>
      split at h
      · next hci =>
        cases h
        obtain ⟨hci, hcr⟩ := hci
        have ho' := ex_cn (ex_pv_ok hR.2.2.2.1 a (r.getD 1 0) (r.getD 2 0)) (ex_tl ho)
        have kk := kk rfl ho'
        simp only [ex_hok, Bool.and_eq_true, decide_eq_true_eq] at hk
        obtain ⟨rfl, hk⟩ := hk
        subst hci
        rcases Nat.lt_or_ge a ro with har | har
        · have hro := hF.2.2.1 a _ har hsh
          by_cases hc : r.getD 0 0 < 100
          · rw [if_pos hc] at hk
            split at hk
            · exfalso; omega
            · cases hk
          · rw [if_neg hc] at hk
            simp only [Bool.and_eq_true, decide_eq_true_eq] at hk
            obtain ⟨⟨hk1, hk2⟩, hk3⟩ := hk
            have hOF := (hro hk1.2).2 _ hk1.1
            rw [List.map_cons, hk2, ex_pv_val] at kk
            split at hk3
            · simp only [decide_eq_true_eq] at hk3
              exact vk_getf hexec hb hOF hR.2.2.1 hown (hts _ (List.mem_of_getElem? hk3)) (fun _ h9 => h9) hd kk
            · simp only [decide_eq_true_eq] at hk3
              obtain ⟨cf, kf, fi, f, cell, g1, g2, g3, g4, g5, g6⟩ := hOF.kept hR.2.2.1.2.1
              exact va_Wgetf hexec hb hown (va_Nw.use rfl (hF.2.2.2.2.1 _ (List.mem_of_getElem? hk3))) g1 g2 g3 g4 g5 rfl rfl hd kk
        · have he := ex_ws_get (cA := cA) (ad := ad) hsh har
          by_cases hc : r.getD 0 0 < 100
          · rw [if_pos hc] at hk
            split at hk
            · next q hq =>
              simp only [Bool.and_eq_true, decide_eq_true_eq] at hk
              obtain ⟨⟨hk1, hk2⟩, hk3⟩ := hk
              rw [List.map_cons, hk2, ex_pv_val] at kk
              have hv := ex_fs_get (ad := ad) (w := w) (i := a) (ci := r.getD 0 0) (k := r.getD 1 0) (by rw [ex_N_of hq]; exact hk1)
              split at hk3
              · simp only [decide_eq_true_eq] at hk3
                exact va_get hexec hb hts (hU _ _ hq) hown hF.1 hR.1 _ he hq _ hk1 (hts _ (List.mem_of_getElem? hk3)) (fun _ h9 => h9) hv hd kk
              · simp only [decide_eq_true_eq] at hk3
                exact va_getN hexec hb hts (hU _ _ hq) hown hF.1 hR.1 _ he hq _ hk1 (va_Nw.use rfl (hF.2.2.2.2.1 _ (List.mem_of_getElem? hk3))) (fun _ h9 => h9) hv hd kk
            · cases hk
          · exfalso; omega
      · cases h
    · cases h
  · cases h
/-- a putfield's or a store's end: one thing is another -/
theorem ex_h_upd {H1 : Heap} {locs1 : List Loc} {a : Nat} {sh : ex_Sh} (hR : ex_Rel D cA z0 ro ad w s H locs) (hsh : w.1.1[a]? = some sh) (har : ro ≤ a) (hs : w'.1 = w.1) (h1 : ∀ i, i ≠ a → w'.2.1 i = w.2.1 i ∧ w'.2.2.1 i = w.2.2.1 i ∧ w'.2.2.2 i = w.2.2.2 i) (hin : ∀ k r, w'.2.2.2 a k = some r → r < w.1.1.length)
    (hP : va_P D vwCl ((ex_ws cA ro ad w).set (a - ro) (ad a, ex_cell cA ad w' a sh)) H1) (hD : va_D (fun q => z0 ≤ q) ((ex_ws cA ro ad w).set (a - ro) (ad a, ex_cell cA ad w' a sh))) (hS : va_S (fun q => z0 ≤ q) s.heap H1 locs1) : ex_Rel D cA z0 ro ad w' s H1 locs1 ∧ ex_agr ro sts ad ad w w' := by
  have e := ex_ws_set (cA := cA) (ro := ro) (ad := ad) (w := w) (w' := w') (by rw [hs]) hsh har h1
  rw [← e] at hP hD
  refine ⟨⟨hP, hD, hS, fun i k r hk => ?_, by rw [hs]; exact hR.2.2.2.2⟩, fun i _ => ⟨rfl, by rw [hs]⟩, fun i hi => h1 i (by omega), by rw [hs]; exact Nat.le_refl _⟩
  rw [hs]
  by_cases hi : i = a
  · subst hi; exact hin k r hk
  · exact hR.2.2.2.1 i k r (by rw [← (h1 i hi).2.2]; exact hk)
theorem ex_set_ne {α : Type} {I : Nat → Nat → α} {a i : Nat} {g : Nat → α} (h : i ≠ a) : ex_set I a g i = I i := if_neg h
theorem ex_set_eq {α : Type} {I : Nat → Nat → α} {a : Nat} {g : Nat → α} : ex_set I a g a = g := if_pos rfl
theorem ex_up_ne {α : Type} {f : Nat → α} {k j : Nat} {v : α} (h : j ≠ k) : va_up f k v j = f j := if_neg h
theorem ex_up_eq {α : Type} {f : Nat → α} {k : Nat} {v : α} : va_up f k v k = v := if_pos rfl
/-- one field of an object is another: any kind of field -/
theorem ex_h_put {idx a ci : Nat} {v : Value} {st1 : List Value} (hexec : p.tables.exec = Jvm.exec) (hb : c.code = cc) (hown : s.vm.findClass own = some m.cls) (hini : ini = true → meth.name = "<init>") (hts : ∀ w ∈ Ts, w.before args s = true) (hU : ∀ (ci : Nat) (q : vw_C), vwCl[ci]? = some q → ∀ w ∈ u_ws q.1 q.2.1 q.2.2, w ∈ Ts)
    (hF : ex_Fix D cA z0 ro sts Ns ad w s) (hR : ex_Rel D cA z0 ro ad w s H locs) (hsh : w.1.1[a]? = some (.inl ci)) (hci : ci = r.getD 0 0) (har : ro ≤ a) (hk : ex_hok Ts Ns own ini ro sts (.putfield idx) len r k = true) (hd : decode cc pc = .ok (.putfield idx, len)) (ho : ∀ v ∈ st1, ex_okv w.1.1.length v)
    (hs : w'.1 = w.1) (h1 : ∀ i, i ≠ a → w'.2.1 i = w.2.1 i ∧ w'.2.2.1 i = w.2.2.1 i ∧ w'.2.2.2 i = w.2.2.2 i) (h2 : ∀ j, j ≠ r.getD 1 0 → w'.2.1 a j = w.2.1 a j ∧ w'.2.2.1 a j = w.2.2.1 a j ∧ w'.2.2.2 a j = w.2.2.2 a j) (hin : ∀ k r, w'.2.2.2 a k = some r → r < w.1.1.length)
    (hv : ∀ ty, ex_tc ty = r.getD 2 0 → r.getD 2 0 ≤ 3 → ex_val ad w' a (r.getD 1 0) ty = v ∧ narrow ty v = v ∧ fits ty v = true)
    (kk : ∀ (H1 : Heap) (locs1 : List Loc), ex_Rel D cA z0 ro ad w' s H1 locs1 → ex_agr ro sts ad ad w w' → (∀ v ∈ st1, ex_okv w'.1.1.length v) → W p l e R s m args below meth c H1 locs1 (w'.1.2.1 - c0) (w'.1.2.2 - s0) Q (F0 m (pc + len) ls (st1.map (ex_cv ad)))) :
    W p l e R s m args below meth c H locs (w.1.2.1 - c0) (w.1.2.2 - s0) Q (F0 m pc ls (v :: .ref (ad a) :: st1.map (ex_cv ad))) := by
  have he := ex_ws_get (cA := cA) (ad := ad) hsh har
  simp only [ex_hok, Bool.and_eq_true, decide_eq_true_eq] at hk
  obtain ⟨⟨rfl, ht3⟩, hk⟩ := hk
  split at hk
  · next q hq =>
    simp only [Bool.and_eq_true, decide_eq_true_eq] at hk
    obtain ⟨⟨hk1, hk2⟩, hk3⟩ := hk
    subst hci
    have hkN : r.getD 1 0 < ex_N (r.getD 0 0) := by rw [ex_N_of hq]; exact hk1
    obtain ⟨hv1, hv2, hv3⟩ := hv _ hk2.symm ht3
    have hfs := ex_fs_set (ad := ad) (w := w) (w' := w') (i := a) (ci := r.getD 0 0) (k := r.getD 1 0) (v := v) h2 hv1
    have hty := ex_tyok _ _ hq
    have hl : r.getD 1 0 < (ex_fs ad w a (r.getD 0 0)).length := by rw [ex_fs, List.length_map, List.length_range]; exact hkN
    have fin : ∀ (H1 : Heap) (locs1 : List Loc), va_P D vwCl ((ex_ws cA ro ad w).set (a - ro) (ad a, .inr (r.getD 0 0, (ex_fs ad w a (r.getD 0 0)).set (r.getD 1 0) v))) H1 → va_D (fun q => z0 ≤ q) ((ex_ws cA ro ad w).set (a - ro) (ad a, .inr (r.getD 0 0, (ex_fs ad w a (r.getD 0 0)).set (r.getD 1 0) v))) → va_S (fun q => z0 ≤ q) s.heap H1 locs1 → W p l e R s m args below meth c H1 locs1 (w.1.2.1 - c0) (w.1.2.2 - s0) Q (F0 m (pc + 3) ls (st1.map (ex_cv ad))) := by
      intro H1 locs1 hP hD hS
      rw [← hfs] at hP hD
      obtain ⟨g1, g2⟩ := ex_h_upd (sts := sts) hR hsh har hs h1 hin hP hD hS
      have := kk H1 locs1 g1 g2 (by rw [hs]; exact ho)
      rw [hs] at this
      exact this
    split at hk3
    · simp only [Bool.and_eq_true, decide_eq_true_eq] at hk3
      exact va_put hexec hb hts (hU _ _ hq) (ex_ty (r.getD 0 0)) hty.1 hty.2 hown hF.1 hR.1 hR.2.1 hR.2.2.1 _ he hq _ hk1 (hts _ (List.mem_of_getElem? hk3.1)) (fun _ h9 => h9) hk3.2 (hty.1 _ hk1) hv2 hv3 hl hd fin
    · simp only [Bool.and_eq_true, decide_eq_true_eq] at hk3
      exact va_putN hexec hb hts (hU _ _ hq) (ex_ty (r.getD 0 0)) hty.1 hty.2 hown hF.1 hR.1 hR.2.1 hR.2.2.1 _ he hq _ hk1 (va_Nw.use rfl (hF.2.2.2.2.1 _ (List.mem_of_getElem? hk3.1))) (fun _ h9 => h9) hk3.2 (hty.1 _ hk1) hv2 hv3 hl hd fin
    · simp only [Bool.and_eq_true, decide_eq_true_eq] at hk3
      exact va_putF hexec hb hts (hU _ _ hq) (ex_ty (r.getD 0 0)) hty.1 hty.2 hown hF.1 hR.1 hR.2.1 hR.2.2.1 _ he hq _ hk1 (hts _ (List.mem_of_getElem? hk3.1.1.2)) (fun _ h9 => h9) hk3.1.2 (hini hk3.1.1.1) hk3.2 (hty.1 _ hk1) hv2 hv3 hl hd fin
  · cases hk
theorem ex_nz (x : Int32) (h : x = 0 ∨ x = 1) : narrow .boolean (.int x) = .int x ∧ fits .boolean (.int x) = true := by
  rcases h with rfl | rfl <;> decide +kernel
theorem ex_h_putfield {idx : Nat} (hexec : p.tables.exec = Jvm.exec) (hb : c.code = cc) (hown : s.vm.findClass own = some m.cls) (hini : ini = true → meth.name = "<init>") (hts : ∀ w ∈ Ts, w.before args s = true) (hU : ∀ (ci : Nat) (q : vw_C), vwCl[ci]? = some q → ∀ w ∈ u_ws q.1 q.2.1 q.2.2, w ∈ Ts)
    (hF : ex_Fix D cA z0 ro sts Ns ad w s) (hR : ex_Rel D cA z0 ro ad w s H locs) (h : ex_heap ro (.putfield idx) r k st w = some (st', w')) (hk : ex_hok Ts Ns own ini ro sts (.putfield idx) len r k = true) (hd : decode cc pc = .ok (.putfield idx, len)) (ho : ∀ v ∈ st, ex_okv w.1.1.length v)
    (kk : ∀ (H1 : Heap) (locs1 : List Loc), ex_Rel D cA z0 ro ad w' s H1 locs1 → ex_agr ro sts ad ad w w' → (∀ v ∈ st', ex_okv w'.1.1.length v) → W p l e R s m args below meth c H1 locs1 (w'.1.2.1 - c0) (w'.1.2.2 - s0) Q (F0 m (pc + len) ls (st'.map (ex_cv ad)))) :
    W p l e R s m args below meth c H locs (w.1.2.1 - c0) (w.1.2.2 - s0) Q (F0 m pc ls (st.map (ex_cv ad))) := by
  simp only [ex_heap] at h
  split at h
  · next ht =>
    split at h
    · next x a st1 =>
      split at h
      · next ci hsh =>
        split at h
        · next hc =>
          simp only [Option.some.injEq, Prod.mk.injEq] at h
          obtain ⟨rfl, hw⟩ := h
          have hw := hw.symm
          refine ex_h_put (v := .long x) hexec hb hown hini hts hU hF hR hsh hc.1 hc.2 hk hd (ex_tl (ex_tl ho)) (by rw [hw]) (fun i hi => by rw [hw]; exact ⟨rfl, ex_set_ne hi, rfl⟩) (fun j hj => by rw [hw]; exact ⟨rfl, (congrFun ex_set_eq j).trans (ex_up_ne hj), rfl⟩) (fun k r hk => hR.2.2.2.1 _ _ _ (by rw [hw] at hk; exact hk)) (fun ty h1 h2 => ?_) kk
          · rw [ht] at h1
            cases ty <;> simp [ex_tc] at h1
            refine ⟨?_, rfl, rfl⟩
            rw [hw]
            show Value.long (ex_set _ a _ a _) = _
            rw [ex_set_eq, ex_up_eq]
        · cases h
      · cases h
    · cases h
  · next ht =>
    split at h
    · next x a st1 =>
      split at h
      · next ci hsh =>
        split at h
        · next hc =>
          simp only [Option.some.injEq, Prod.mk.injEq] at h
          obtain ⟨rfl, hw⟩ := h
          have hw := hw.symm
          have hx : x < w.1.1.length := ho _ List.mem_cons_self
          refine ex_h_put (v := .ref (ad x)) hexec hb hown hini hts hU hF hR hsh hc.1 hc.2 hk hd (ex_tl (ex_tl ho)) (by rw [hw]) (fun i hi => by rw [hw]; exact ⟨rfl, rfl, ex_set_ne hi⟩) (fun j hj => by rw [hw]; exact ⟨rfl, rfl, (congrFun ex_set_eq j).trans (ex_up_ne hj)⟩) (fun k r' hk => ?_) (fun ty h1 h2 => ?_) kk
          · rw [hw] at hk
            have hk : ex_set w.2.2.2 a (va_up (w.2.2.2 a) (r.getD 1 0) (some x)) a k = some r' := hk
            rw [ex_set_eq] at hk
            by_cases hkk : k = r.getD 1 0
            · rw [hkk, ex_up_eq] at hk; cases hk; exact hx
            · rw [ex_up_ne hkk] at hk; exact hR.2.2.2.1 _ _ _ hk
          · rw [ht] at h1
            cases ty <;> simp [ex_tc] at h1
            all_goals
              refine ⟨?_, rfl, rfl⟩
              rw [hw]
              show va_rf (Option.map ad (ex_set _ a _ a _)) = _
              rw [ex_set_eq, ex_up_eq]; rfl
        · cases h
      · cases h
    · cases h
  · next ht =>
    split at h
    · next x a st1 =>
      split at h
      · next ci hsh =>
        split at h
        · next hc =>
          split at h
          · next hx =>
            simp only [Option.some.injEq, Prod.mk.injEq] at h
            obtain ⟨rfl, hw⟩ := h
            have hw := hw.symm
            refine ex_h_put (v := .int x) hexec hb hown hini hts hU hF hR hsh hc.1 hc.2 hk hd (ex_tl (ex_tl ho)) (by rw [hw]) (fun i hi => by rw [hw]; exact ⟨ex_set_ne hi, rfl, rfl⟩) (fun j hj => by rw [hw]; exact ⟨(congrFun ex_set_eq j).trans (ex_up_ne hj), rfl, rfl⟩) (fun k r hk => hR.2.2.2.1 _ _ _ (by rw [hw] at hk; exact hk)) (fun ty h1 h2 => ?_) kk
            · rw [ht] at h1
              cases ty <;> simp [ex_tc] at h1
              refine ⟨?_, (ex_nz x hx).1, (ex_nz x hx).2⟩
              rw [hw]
              show Value.int (ex_set _ a _ a _) = _
              rw [ex_set_eq, ex_up_eq]
          · cases h
        · cases h
      · cases h
    · cases h
  · next n1 n2 n3 =>
    split at h
    · next x a st1 =>
      split at h
      · next ci hsh =>
        split at h
        · next hc =>
          simp only [Option.some.injEq, Prod.mk.injEq] at h
          obtain ⟨rfl, hw⟩ := h
          have hw := hw.symm
          refine ex_h_put (v := .int x) hexec hb hown hini hts hU hF hR hsh hc.1 hc.2 hk hd (ex_tl (ex_tl ho)) (by rw [hw]) (fun i hi => by rw [hw]; exact ⟨ex_set_ne hi, rfl, rfl⟩) (fun j hj => by rw [hw]; exact ⟨(congrFun ex_set_eq j).trans (ex_up_ne hj), rfl, rfl⟩) (fun k r hk => hR.2.2.2.1 _ _ _ (by rw [hw] at hk; exact hk)) (fun ty h1 h2 => ?_) kk
          · have hz : r.getD 2 0 = 0 := by
              rcases (show r.getD 2 0 = 0 ∨ r.getD 2 0 = 1 ∨ r.getD 2 0 = 2 ∨ r.getD 2 0 = 3 by omega) with h | h | h | h
              · exact h
              · exact absurd h n1
              · exact absurd h n2
              · exact absurd h n3
            rw [hz] at h1
            cases ty <;> simp [ex_tc] at h1
            refine ⟨?_, rfl, rfl⟩
            rw [hw]
            show Value.int (ex_set _ a _ a _) = _
            rw [ex_set_eq, ex_up_eq]
        · cases h
      · cases h
    · cases h
theorem ex_h_len (hexec : p.tables.exec = Jvm.exec) (hb : c.code = cc) (hF : ex_Fix D cA z0 ro sts Ns ad w s) (hR : ex_Rel D cA z0 ro ad w s H locs) (h : ex_heap ro .arraylength r k st w = some (st', w')) (hd : decode cc pc = .ok (.arraylength, 1)) (ho : ∀ v ∈ st, ex_okv w.1.1.length v)
    (kk : w' = w → (∀ v ∈ st', ex_okv w.1.1.length v) → W p l e R s m args below meth c H locs (w.1.2.1 - c0) (w.1.2.2 - s0) Q (F0 m (pc + 1) ls (st'.map (ex_cv ad)))) :
    W p l e R s m args below meth c H locs (w.1.2.1 - c0) (w.1.2.2 - s0) Q (F0 m pc ls (st.map (ex_cv ad))) := by
  simp only [ex_heap] at h
  split at h
  · next a st1 =>
    split at h
    · next q hsh =>
      split at h
      · next hc =>
        cases h
        have kk := kk rfl (ex_cn trivial (ex_tl ho))
        rcases Nat.lt_or_ge a ro with har | har
        · exact va_tlen hexec hb (hF.2.2.1 a _ har hsh) hR.2.2.1 rfl hd kk
        · have hat : ex_at q.1 = true := hc.resolve_left (fun q => q har)
          have he := ex_ws_get (cA := cA) (ad := ad) hsh har
          have ht : ∃ t0 : Nat, (ex_tys cA)[t0]? = some (cA q.1, q.1) := by
            obtain ⟨ty, n⟩ := q
            cases ty <;> simp [ex_at] at hat
            · exact ⟨1, rfl⟩
            · exact ⟨0, rfl⟩
            · exact ⟨3, rfl⟩
            · exact ⟨2, rfl⟩
          obtain ⟨t0, ht⟩ := ht
          exact va_alen hexec hb hF.1 hR.1 _ t0 he ht rfl hd kk
      · cases h
    · cases h
  · cases h
theorem ex_h_load {ins : Instr} (hi : ins = .iaload ∨ ins = .baload ∨ ins = .laload ∨ ins = .aaload) (hexec : p.tables.exec = Jvm.exec) (hb : c.code = cc) (hF : ex_Fix D cA z0 ro sts Ns ad w s) (hR : ex_Rel D cA z0 ro ad w s H locs) (h : ex_heap ro ins r k st w = some (st', w')) (hd : decode cc pc = .ok (ins, 1)) (ho : ∀ v ∈ st, ex_okv w.1.1.length v)
    (kk : w' = w → (∀ v ∈ st', ex_okv w.1.1.length v) → W p l e R s m args below meth c H locs (w.1.2.1 - c0) (w.1.2.2 - s0) Q (F0 m (pc + 1) ls (st'.map (ex_cv ad)))) :
    W p l e R s m args below meth c H locs (w.1.2.1 - c0) (w.1.2.2 - s0) Q (F0 m pc ls (st.map (ex_cv ad))) := by
  rcases hi with rfl | rfl | rfl | rfl
  · simp only [ex_heap] at h
    split at h
    · next j a st1 =>
      split at h
      · next n hsh =>
        split at h
        · next hc =>
          cases h
          have kk := kk rfl (ex_cn trivial (ex_tl (ex_tl ho)))
          rcases Nat.lt_or_ge a ro with har | har
          · exact va_ti hexec hb (hF.2.2.1 a _ har hsh) hR.2.2.1 (ex_vpin hc) rfl hd kk
          · exact va_iald hexec hb hF.1 hR.1 _ 0 (ex_ws_get (cA := cA) (ad := ad) hsh har) rfl (ex_vpin hc) hd kk
        · cases h
      · cases h
    · cases h
  · simp only [ex_heap] at h
    split at h
    · next j a st1 =>
      split at h
      · next n hsh =>
        split at h
        · next hc =>
          cases h
          have kk := kk rfl (ex_cn trivial (ex_tl (ex_tl ho)))
          rcases Nat.lt_or_ge a ro with har | har
          · exact va_tb hexec hb (hF.2.2.1 a _ har hsh) hR.2.2.1 (ex_vpin hc) rfl hd kk
          · exact va_bald hexec hb hF.1 hR.1 _ 1 (ex_ws_get (cA := cA) (ad := ad) hsh har) rfl (ex_vpin hc) hd kk
        · cases h
      · next n hsh =>
        split at h
        · next hc =>
          cases h
          have kk := kk rfl (ex_cn trivial (ex_tl (ex_tl ho)))
          rcases Nat.lt_or_ge a ro with har | har
          · exact va_tz hexec hb (hF.2.2.1 a _ har hsh) hR.2.2.1 (ex_vpin hc) rfl hd kk
          · exact va_zald hexec hb hF.1 hR.1 _ 2 (ex_ws_get (cA := cA) (ad := ad) hsh har) rfl (ex_vpin hc) hd kk
        · cases h
      · cases h
    · cases h
  · simp only [ex_heap] at h
    split at h
    · next j a st1 =>
      split at h
      · next n hsh =>
        split at h
        · next hc =>
          cases h
          have kk := kk rfl (ex_cn trivial (ex_tl (ex_tl ho)))
          rcases Nat.lt_or_ge a ro with har | har
          · exact va_tl hexec hb (hF.2.2.1 a _ har hsh) hR.2.2.1 (ex_vpin hc) rfl hd kk
          · exact va_lald hexec hb hF.1 hR.1 _ 3 (ex_ws_get (cA := cA) (ad := ad) hsh har) rfl (ex_vpin hc) hd kk
        · cases h
      · cases h
    · cases h
  · simp only [ex_heap] at h
    split at h
    · next j a st1 =>
      split at h
      · next C n hsh =>
        split at h
        · next hc =>
          cases h
          have kk := kk rfl (ex_cn (ex_okv_rf (fun r hr => hR.2.2.2.1 _ _ _ hr)) (ex_tl (ex_tl ho)))
          rw [List.map_cons, ex_cv_rf] at kk
          have har : a < ro := Nat.not_le.mp hc.2
          exact vb_tq hexec hb (hF.2.2.1 a _ har hsh) hR.2.2.1 (ex_vpin hc.1) rfl hd kk
        · cases h
      · cases h
    · cases h
theorem ex_h_store {ins : Instr} (hi : ins = .iastore ∨ ins = .bastore ∨ ins = .lastore) (hexec : p.tables.exec = Jvm.exec) (hb : c.code = cc) (hF : ex_Fix D cA z0 ro sts Ns ad w s) (hR : ex_Rel D cA z0 ro ad w s H locs) (h : ex_heap ro ins r k st w = some (st', w')) (hd : decode cc pc = .ok (ins, 1)) (ho : ∀ v ∈ st, ex_okv w.1.1.length v)
    (kk : ∀ (H1 : Heap) (locs1 : List Loc), ex_Rel D cA z0 ro ad w' s H1 locs1 → ex_agr ro sts ad ad w w' → (∀ v ∈ st', ex_okv w'.1.1.length v) → W p l e R s m args below meth c H1 locs1 (w'.1.2.1 - c0) (w'.1.2.2 - s0) Q (F0 m (pc + 1) ls (st'.map (ex_cv ad)))) :
    W p l e R s m args below meth c H locs (w.1.2.1 - c0) (w.1.2.2 - s0) Q (F0 m pc ls (st.map (ex_cv ad))) := by
  have fin : ∀ (a : Nat) (sh : ex_Sh) (st1 : List Value), w.1.1[a]? = some sh → ro ≤ a → (∀ v ∈ st1, ex_okv w.1.1.length v) → st' = st1 → w'.1 = w.1 → (∀ i, i ≠ a → w'.2.1 i = w.2.1 i ∧ w'.2.2.1 i = w.2.2.1 i ∧ w'.2.2.2 i = w.2.2.2 i) → w'.2.2.2 = w.2.2.2 →
      ∀ (H1 : Heap) (locs1 : List Loc), va_P D vwCl ((ex_ws cA ro ad w).set (a - ro) (ad a, ex_cell cA ad w' a sh)) H1 → va_D (fun q => z0 ≤ q) ((ex_ws cA ro ad w).set (a - ro) (ad a, ex_cell cA ad w' a sh)) → va_S (fun q => z0 ≤ q) s.heap H1 locs1 → W p l e R s m args below meth c H1 locs1 (w.1.2.1 - c0) (w.1.2.2 - s0) Q (F0 m (pc + 1) ls (st1.map (ex_cv ad))) := by
    intro a sh st1 hsh har ho1 he hs h1 h2 H1 locs1 hP hD hS
    obtain ⟨g1, g2⟩ := ex_h_upd (sts := sts) hR hsh har hs h1 (fun k r hk => hR.2.2.2.1 a k r (by rw [← h2]; exact hk)) hP hD hS
    have := kk H1 locs1 g1 g2 (by rw [hs, he]; exact ho1)
    rw [hs, he] at this
    exact this
  rcases hi with rfl | rfl | rfl
  · simp only [ex_heap] at h
    split at h
    · next x j a st1 =>
      split at h
      · next n hsh =>
        split at h
        · next hc =>
          simp only [Option.some.injEq, Prod.mk.injEq] at h
          obtain ⟨h1, hw⟩ := h
          have hw := hw.symm
          have f := fin a _ st1 hsh hc.2 (ex_tl (ex_tl (ex_tl ho))) h1.symm (by rw [hw]) (fun i hi => by rw [hw]; exact ⟨ex_set_ne hi, rfl, rfl⟩) (by rw [hw])
          refine va_iast hexec hb hF.1 hR.1 hR.2.1 hR.2.2.1 _ 0 (ex_ws_get (cA := cA) (ad := ad) hsh hc.2) rfl (ex_vpin hc.1) hd fun H1 locs1 hP hD hS => f H1 locs1 ?_ ?_ hS
          · have e : ex_cell cA ad w' a (.inr (.int, n)) = .inl (cA .int, n, .inl (upd (w.2.1 a) j.toNatClampNeg x)) := by
              rw [hw]; show Sum.inl (cA .int, n, Sum.inl (ex_set _ a _ a)) = _; rw [ex_set_eq]; rfl
            rw [e]; exact hP
          · have e : ex_cell cA ad w' a (.inr (.int, n)) = .inl (cA .int, n, .inl (upd (w.2.1 a) j.toNatClampNeg x)) := by
              rw [hw]; show Sum.inl (cA .int, n, Sum.inl (ex_set _ a _ a)) = _; rw [ex_set_eq]; rfl
            rw [e]; exact hD
        · cases h
      · cases h
    · cases h
  · simp only [ex_heap] at h
    split at h
    · next x j a st1 =>
      split at h
      · next n hsh =>
        split at h
        · next hc =>
          simp only [Option.some.injEq, Prod.mk.injEq] at h
          obtain ⟨h1, hw⟩ := h
          have hw := hw.symm
          have f := fin a _ st1 hsh hc.2 (ex_tl (ex_tl (ex_tl ho))) h1.symm (by rw [hw]) (fun i hi => by rw [hw]; exact ⟨ex_set_ne hi, rfl, rfl⟩) (by rw [hw])
          have e : ex_cell cA ad w' a (.inr (.byte, n)) = .inl (cA .byte, n, .inl (upd (w.2.1 a) j.toNatClampNeg (vp_nar .byte x))) := by
            rw [hw]; show Sum.inl (cA .byte, n, Sum.inl (ex_set _ a _ a)) = _; rw [ex_set_eq]; rfl
          rw [e] at f
          exact va_bast hexec hb hF.1 hR.1 hR.2.1 hR.2.2.1 _ 1 (ex_ws_get (cA := cA) (ad := ad) hsh hc.2) rfl (ex_vpin hc.1) hd f
        · cases h
      · next n hsh =>
        split at h
        · next hc =>
          simp only [Option.some.injEq, Prod.mk.injEq] at h
          obtain ⟨h1, hw⟩ := h
          have hw := hw.symm
          have f := fin a _ st1 hsh hc.2 (ex_tl (ex_tl (ex_tl ho))) h1.symm (by rw [hw]) (fun i hi => by rw [hw]; exact ⟨ex_set_ne hi, rfl, rfl⟩) (by rw [hw])
          have e : ex_cell cA ad w' a (.inr (.boolean, n)) = .inl (cA .boolean, n, .inl (upd (w.2.1 a) j.toNatClampNeg (vp_nar .boolean x))) := by
            rw [hw]; show Sum.inl (cA .boolean, n, Sum.inl (ex_set _ a _ a)) = _; rw [ex_set_eq]; rfl
          rw [e] at f
          exact va_zast hexec hb hF.1 hR.1 hR.2.1 hR.2.2.1 _ 2 (ex_ws_get (cA := cA) (ad := ad) hsh hc.2) rfl (ex_vpin hc.1) hd f
        · cases h
      · cases h
    · cases h
  · simp only [ex_heap] at h
    split at h
    · next x j a st1 =>
      split at h
      · next n hsh =>
        split at h
        · next hc =>
          simp only [Option.some.injEq, Prod.mk.injEq] at h
          obtain ⟨h1, hw⟩ := h
          have hw := hw.symm
          have f := fin a _ st1 hsh hc.2 (ex_tl (ex_tl (ex_tl ho))) h1.symm (by rw [hw]) (fun i hi => by rw [hw]; exact ⟨rfl, ex_set_ne hi, rfl⟩) (by rw [hw])
          have e : ex_cell cA ad w' a (.inr (.long, n)) = .inl (cA .long, n, .inr (.inl (vp_updL (w.2.2.1 a) j.toNatClampNeg x))) := by
            rw [hw]; show Sum.inl (cA .long, n, Sum.inr (Sum.inl (ex_set _ a _ a))) = _; rw [ex_set_eq]; rfl
          rw [e] at f
          exact va_last hexec hb hF.1 hR.1 hR.2.1 hR.2.2.1 _ 3 (ex_ws_get (cA := cA) (ad := ad) hsh hc.2) rfl (ex_vpin hc.1) hd f
        · cases h
      · cases h
    · cases h
theorem ex_val0 {ad : Nat → Nat} {w : ex_W} {a k : Nat} {ty : FieldType} (h1 : w.2.1 a = fun _ => 0) (h2 : w.2.2.1 a = fun _ => 0) (h3 : w.2.2.2 a = fun _ => none) (ht : ex_tc ty ≤ 3) : ex_val ad w a k ty = defaultValue ty := by
  cases ty <;> simp [ex_tc] at ht <;> simp only [ex_val, h1, h2, h3] <;> rfl
theorem ex_h_newarray {t : ArrayType} (hexec : p.tables.exec = Jvm.exec) (hb : c.code = cc) (hts : ∀ w ∈ Ts, w.before args s = true) (hF : ex_Fix D cA z0 ro sts Ns ad w s) (hR : ex_Rel D cA z0 ro ad w s H locs) (h : ex_heap ro (.newarray t) r k st w = some (st', w')) (hk : ex_hok Ts Ns own ini ro sts (.newarray t) len r k = true) (hd : decode cc pc = .ok (.newarray t, len)) (ho : ∀ v ∈ st, ex_okv w.1.1.length v)
    (hc0 : c0 ≤ w.1.2.1) (hs0 : s0 ≤ w.1.2.2) (hRc : w'.1.2.1 - c0 ≤ R.cells) (hRs : w'.1.2.2 - s0 ≤ R.slots)
    (kk : ∀ (ad' : Nat → Nat) (H1 : Heap) (locs1 : List Loc), ex_Rel D cA z0 ro ad' w' s H1 locs1 → ex_agr ro sts ad ad' w w' → (∀ v ∈ st', ex_okv w'.1.1.length v) → W p l e R s m args below meth c H1 locs1 (w'.1.2.1 - c0) (w'.1.2.2 - s0) Q (F0 m (pc + len) ls (st'.map (ex_cv ad')))) :
    W p l e R s m args below meth c H locs (w.1.2.1 - c0) (w.1.2.2 - s0) Q (F0 m pc ls (st.map (ex_cv ad))) := by
  simp only [ex_hok, Bool.and_eq_true, decide_eq_true_eq] at hk
  obtain ⟨⟨rfl, hat⟩, hk⟩ := hk
  simp only [ex_heap] at h
  split at h
  · next n st1 =>
    split at h
    · next hc =>
      simp only [Option.some.injEq, Prod.mk.injEq] at h
      obtain ⟨h1, hw⟩ := h
      have hw := hw.symm
      have ec : w'.1.2.1 = w.1.2.1 + 1 := by rw [hw]
      have es : w'.1.2.2 = w.1.2.2 + n.toNatClampNeg := by rw [hw]
      have hz : ∀ ty : FieldType, ex_at ty = true → ∃ a0 : vp_A, (∀ cA : ClassId, vp_cell cA a0 = arrV cA n.toNatClampNeg (fun _ => defaultValue ty)) ∧ a0 = (n.toNatClampNeg, ex_ac w' w.1.1.length ty) := by
        intro ty h
        have e1 : w'.2.1 w.1.1.length = fun _ => 0 := by rw [hw]; exact ex_set_eq
        have e2 : w'.2.2.1 w.1.1.length = fun _ => 0 := by rw [hw]; exact ex_set_eq
        cases ty <;> simp [ex_at] at h <;> refine ⟨_, fun cA => ?_, rfl⟩ <;> simp only [ex_ac, e1, e2] <;> rfl
      obtain ⟨a0, ha0, ea0⟩ := hz _ hat
      have hbt : n.toNatClampNeg * componentBytes (newarray.typeOf t) ≤ 536870912 := by
        have h8 : componentBytes (newarray.typeOf t) ≤ 8 := by cases t <;> decide
        calc n.toNatClampNeg * componentBytes (newarray.typeOf t) ≤ 65536 * 8 := Nat.mul_le_mul hc.2 h8
          _ ≤ 536870912 := by decide
      refine va_newa (atype := t) hexec hb (hts _ (List.mem_of_getElem? hk)) rfl hF.1 hR.1 hR.2.1 hR.2.2.1 (fun q hq => Nat.le_trans hF.2.1 hq) ha0 hc.1 rfl hbt (by omega) (by omega) hd fun q cA' H1 hK hP hD hS => ?_
      have hcA : cA' = cA (newarray.typeOf t) := by
        have g1 := (hK.2 (ex_tys cA).length (cA', newarray.typeOf t) (by rw [List.getElem?_append_right (Nat.le_refl _), Nat.sub_self]; rfl)).2
        have g2 : ∃ t0 : Nat, (ex_tys cA)[t0]? = some (cA (newarray.typeOf t), newarray.typeOf t) := by
          cases t <;> simp [ex_at, newarray.typeOf] at hat
          · exact ⟨2, rfl⟩
          · exact ⟨1, rfl⟩
          · exact ⟨0, rfl⟩
          · exact ⟨3, rfl⟩
        obtain ⟨t0, g2⟩ := g2
        have g3 := (hF.1.2 t0 _ g2).2
        cases t <;> exact Option.some.inj (g1.symm.trans g3)
      subst hcA
      subst ea0
      have hes : w'.1.1 = w.1.1 ++ [.inr (newarray.typeOf t, n.toNatClampNeg)] := by rw [hw]
      have had : ∀ i, i < w.1.1.length → va_up ad w.1.1.length q i = ad i := fun i hi => ex_up_ne (by omega)
      have hne : ∀ i, i < w.1.1.length → w'.2.1 i = w.2.1 i ∧ w'.2.2.1 i = w.2.2.1 i ∧ w'.2.2.2 i = w.2.2.2 i := fun i hi => by
        rw [hw]; exact ⟨ex_set_ne (by omega), ex_set_ne (by omega), rfl⟩
      have ew := ex_ws_push (cA := cA) (ro := ro) (ad := ad) (ad' := va_up ad w.1.1.length q) hes hR.2.2.2.2 hR.2.2.2.1 had hne
      rw [ex_up_eq] at ew
      have hl : w'.1.1.length = w.1.1.length + 1 := by rw [hes]; simp
      have kk := kk (va_up ad w.1.1.length q) H1 locs ⟨by rw [ew]; exact hP, by rw [ew]; exact hD, hS, fun i k r hk => by
          have : w'.2.2.2 = w.2.2.2 := by rw [hw]
          rw [this] at hk; have := hR.2.2.2.1 i k r hk; omega, by have := hR.2.2.2.2; omega⟩
        ⟨fun i hi => ⟨had i hi, by rw [hes, List.getElem?_append_left hi]⟩, fun i hi => hne i (Nat.lt_of_lt_of_le hi hR.2.2.2.2), by omega⟩
        (by rw [← h1]; exact ex_cn (show w.1.1.length < w'.1.1.length by omega) (fun v hv => (ex_tl ho v hv).mono (by omega)))
      have e3 : st'.map (ex_cv (va_up ad w.1.1.length q)) = .ref q :: st1.map (ex_cv ad) := by
        rw [← h1, List.map_cons, ex_map_same (ex_tl ho) had]
        show Value.ref (va_up ad w.1.1.length q w.1.1.length) :: _ = _
        rw [ex_up_eq]
      rw [e3, ec, es, show w.1.2.1 + 1 - c0 = w.1.2.1 - c0 + 1 by omega, show w.1.2.2 + n.toNatClampNeg - s0 = w.1.2.2 - s0 + n.toNatClampNeg by omega] at kk
      exact kk
    · cases h
  · cases h
theorem ex_h_new {idx : Nat} (hexec : p.tables.exec = Jvm.exec) (hb : c.code = cc) (hown : s.vm.findClass own = some m.cls) (hts : ∀ w ∈ Ts, w.before args s = true) (hU : ∀ (ci : Nat) (q : vw_C), vwCl[ci]? = some q → ∀ w ∈ u_ws q.1 q.2.1 q.2.2, w ∈ Ts) (hF : ex_Fix D cA z0 ro sts Ns ad w s) (hR : ex_Rel D cA z0 ro ad w s H locs) (h : ex_heap ro (.new idx) r k st w = some (st', w')) (hk : ex_hok Ts Ns own ini ro sts (.new idx) len r k = true) (hd : decode cc pc = .ok (.new idx, len)) (ho : ∀ v ∈ st, ex_okv w.1.1.length v)
    (hc0 : c0 ≤ w.1.2.1) (hs0 : s0 ≤ w.1.2.2) (hRc : w'.1.2.1 - c0 ≤ R.cells) (hRs : w'.1.2.2 - s0 ≤ R.slots)
    (kk : ∀ (ad' : Nat → Nat) (H1 : Heap) (locs1 : List Loc), ex_Rel D cA z0 ro ad' w' s H1 locs1 → ex_agr ro sts ad ad' w w' → (∀ v ∈ st', ex_okv w'.1.1.length v) → W p l e R s m args below meth c H1 locs1 (w'.1.2.1 - c0) (w'.1.2.2 - s0) Q (F0 m (pc + len) ls (st'.map (ex_cv ad')))) :
    W p l e R s m args below meth c H locs (w.1.2.1 - c0) (w.1.2.2 - s0) Q (F0 m pc ls (st.map (ex_cv ad))) := by
  simp only [ex_hok, Bool.and_eq_true, decide_eq_true_eq] at hk
  obtain ⟨rfl, hk⟩ := hk
  split at hk
  · next q0 hq =>
    simp only [Bool.and_eq_true, decide_eq_true_eq] at hk
    obtain ⟨⟨hk1, hk2⟩, hk3⟩ := hk
    simp only [ex_heap, Option.some.injEq, Prod.mk.injEq] at h
    obtain ⟨h1, hw⟩ := h
    have hw := hw.symm
    have ec : w'.1.2.1 = w.1.2.1 + 1 := by rw [hw]
    have es : w'.1.2.2 = w.1.2.2 + q0.2.2 := by rw [hw, ← ex_N_of hq]
    have e1 : w'.2.1 w.1.1.length = fun _ => 0 := by rw [hw]; exact ex_set_eq
    have e2 : w'.2.2.1 w.1.1.length = fun _ => 0 := by rw [hw]; exact ex_set_eq
    have e3 : w'.2.2.2 w.1.1.length = fun _ => none := by rw [hw]; exact ex_set_eq
    have hty := ex_tyok _ _ hq
    have hfs : ∀ j, j < q0.2.2 → defaultValue (ex_ty (r.getD 1 0) j) = vp_V (ex_fs ad w' w.1.1.length (r.getD 1 0)) j := by
      intro j hj
      have hjN : j < ex_N (r.getD 1 0) := by rw [ex_N_of hq]; exact hj
      have h66 := ex_N66 hjN
      rw [ex_vpV (ex_fs_get hjN), ex_val0 e1 e2 e3 (ex_tcs _ h66.1 _ h66.2)]
    refine va_new (C := q0.1) (T := q0.2.1) (N := q0.2.2) hexec hb hts (hU _ _ hq) (ex_ty (r.getD 1 0)) hty.1 hown (hts _ (List.mem_of_getElem? hk1)) (hts _ (List.mem_of_getElem? hk2)) (hts _ (List.mem_of_getElem? hk3)) hF.1 hR.1 hR.2.1 hR.2.2.1 (fun q hq => Nat.le_trans hF.2.1 hq) hq hfs (by omega) (by omega) hd fun q H1 hP hD hS => ?_
    have hes : w'.1.1 = w.1.1 ++ [.inl (r.getD 1 0)] := by rw [hw]
    have had : ∀ i, i < w.1.1.length → va_up ad w.1.1.length q i = ad i := fun i hi => ex_up_ne (by omega)
    have hne : ∀ i, i < w.1.1.length → w'.2.1 i = w.2.1 i ∧ w'.2.2.1 i = w.2.2.1 i ∧ w'.2.2.2 i = w.2.2.2 i := fun i hi => by
      rw [hw]; exact ⟨ex_set_ne (by omega), ex_set_ne (by omega), ex_set_ne (by omega)⟩
    have ew := ex_ws_push (cA := cA) (ro := ro) (ad := ad) (ad' := va_up ad w.1.1.length q) hes hR.2.2.2.2 hR.2.2.2.1 had hne
    rw [ex_up_eq] at ew
    have ee : ex_cell cA (va_up ad w.1.1.length q) w' w.1.1.length (.inl (r.getD 1 0)) = .inr (r.getD 1 0, ex_fs ad w' w.1.1.length (r.getD 1 0)) :=
      ex_cell_eq (cA := cA) (ad := ad) rfl rfl rfl (fun k r hk => by rw [e3] at hk; cases hk) (.inl (r.getD 1 0))
    rw [ee] at ew
    have hl : w'.1.1.length = w.1.1.length + 1 := by rw [hes]; simp
    have kk := kk (va_up ad w.1.1.length q) H1 locs ⟨by rw [ew]; exact hP, by rw [ew]; exact hD, hS, fun i k r hk => by
        by_cases hi : i = w.1.1.length
        · rw [hi, e3] at hk; cases hk
        · have : w'.2.2.2 i = w.2.2.2 i := by rw [hw]; exact ex_set_ne hi
          rw [this] at hk; have := hR.2.2.2.1 i k r hk; omega, by have := hR.2.2.2.2; omega⟩
      ⟨fun i hi => ⟨had i hi, by rw [hes, List.getElem?_append_left hi]⟩, fun i hi => hne i (Nat.lt_of_lt_of_le hi hR.2.2.2.2), by omega⟩
      (by rw [← h1]; exact ex_cn (show w.1.1.length < w'.1.1.length by omega) (fun v hv => (ho v hv).mono (by omega)))
    have e4 : st'.map (ex_cv (va_up ad w.1.1.length q)) = .ref q :: st.map (ex_cv ad) := by
      rw [← h1, List.map_cons, ex_map_same ho had]
      show Value.ref (va_up ad w.1.1.length q w.1.1.length) :: _ = _
      rw [ex_up_eq]
    rw [e4, ec, es, show w.1.2.1 + 1 - c0 = w.1.2.1 - c0 + 1 by omega, show w.1.2.2 + q0.2.2 - s0 = w.1.2.2 - s0 + q0.2.2 by omega] at kk
    exact kk
  · cases hk
theorem ex_stv_ok {q : Nat × Nat × Int32} (hin : ex_rin w) (h : q.2.1 < w.1.1.length) : ex_okv w.1.1.length (ex_stv w q) := by
  unfold ex_stv
  split
  · exact h
  · exact ex_okv_rf (fun r hr => hin _ _ _ hr)
  · exact trivial
theorem ex_h_rest {ins : Instr} (hexec : p.tables.exec = Jvm.exec) (hb : c.code = cc) (hown : s.vm.findClass own = some m.cls) (hts : ∀ w ∈ Ts, w.before args s = true) (hso : ex_sok ro sts) (hF : ex_Fix D cA z0 ro sts Ns ad w s) (hR : ex_Rel D cA z0 ro ad w s H locs) (hi : (∃ i, ins = .getstatic i) ∨ (∃ i, ins = .ldc i) ∨ (∃ i, ins = .ldc_w i) ∨ (∃ i, ins = .ldc2_w i)) (h : ex_heap ro ins r k st w = some (st', w')) (hk : ex_hok Ts Ns own ini ro sts ins len r k = true) (hd : decode cc pc = .ok (ins, len)) (ho : ∀ v ∈ st, ex_okv w.1.1.length v)
    (kk : w' = w → (∀ v ∈ st', ex_okv w.1.1.length v) → W p l e R s m args below meth c H locs (w.1.2.1 - c0) (w.1.2.2 - s0) Q (F0 m (pc + len) ls (st'.map (ex_cv ad)))) :
    W p l e R s m args below meth c H locs (w.1.2.1 - c0) (w.1.2.2 - s0) Q (F0 m pc ls (st.map (ex_cv ad))) := by
  rcases hi with ⟨i, rfl⟩ | ⟨i, rfl⟩ | ⟨i, rfl⟩ | ⟨i, rfl⟩
  · cases h
    simp only [ex_hok, Bool.and_eq_true, decide_eq_true_eq] at hk
    obtain ⟨rfl, hk⟩ := hk
    split at hk
    · next q hq =>
      simp only [Bool.and_eq_true, decide_eq_true_eq] at hk
      obtain ⟨hk1, hk2⟩ := hk
      have hZ := hF.2.2.2.1 _ _ hq
      have hz := hso _ _ hq
      rw [hk1] at hZ
      rw [hk1] at hz
      have kk := kk rfl (ex_cn (ex_stv_ok hR.2.2.2.1 (Nat.lt_of_lt_of_le hz hR.2.2.2.2)) ho)
      split at hk2
      · simp only [decide_eq_true_eq] at hk2
        exact va_gets hexec hb hZ hR.2.2.1 hown (hts _ (List.mem_of_getElem? hk2)) (fun _ h9 => h9) hd kk
      · simp only [decide_eq_true_eq] at hk2
        exact va_getsN hexec hb hZ hR.2.2.1 hown (va_Nw.use rfl (hF.2.2.2.2.1 _ (List.mem_of_getElem? hk2))) (fun _ h9 => h9) hd kk
    · cases hk
  · cases h
    simp only [ex_hok, Bool.and_eq_true, decide_eq_true_eq] at hk
    obtain ⟨rfl, hk⟩ := hk
    exact lv_ldc hexec hb hown (hts _ (List.mem_of_getElem? hk)) hd (kk rfl (ex_cn trivial ho))
  · cases h
    simp only [ex_hok, Bool.and_eq_true, decide_eq_true_eq] at hk
    obtain ⟨rfl, hk⟩ := hk
    exact lv_ldcw hexec hb hown (hts _ (List.mem_of_getElem? hk)) hd (kk rfl (ex_cn trivial ho))
  · cases h
    simp only [ex_hok, Bool.and_eq_true, decide_eq_true_eq] at hk
    obtain ⟨rfl, hk⟩ := hk
    exact lv_ldc2 hexec hb hown (hts _ (List.mem_of_getElem? hk)) hd (kk rfl (ex_cn trivial ho))
/-- all of them -/
theorem ex_heap_ok {ins : Instr} (hexec : p.tables.exec = Jvm.exec) (hb : c.code = cc) (hown : s.vm.findClass own = some m.cls) (hini : ini = true → meth.name = "<init>") (hts : ∀ w ∈ Ts, w.before args s = true) (hU : ∀ (ci : Nat) (q : vw_C), vwCl[ci]? = some q → ∀ w ∈ u_ws q.1 q.2.1 q.2.2, w ∈ Ts) (hso : ex_sok ro sts)
    (hF : ex_Fix D cA z0 ro sts Ns ad w s) (hR : ex_Rel D cA z0 ro ad w s H locs) (h : ex_heap ro ins r k st w = some (st', w')) (hk : ex_hok Ts Ns own ini ro sts ins len r k = true) (hd : decode cc pc = .ok (ins, len)) (ho : ∀ v ∈ st, ex_okv w.1.1.length v)
    (hc0 : c0 ≤ w.1.2.1) (hs0 : s0 ≤ w.1.2.2) (hRc : w'.1.2.1 - c0 ≤ R.cells) (hRs : w'.1.2.2 - s0 ≤ R.slots)
    (kk : ∀ (ad' : Nat → Nat) (H1 : Heap) (locs1 : List Loc), ex_Rel D cA z0 ro ad' w' s H1 locs1 → ex_agr ro sts ad ad' w w' → (∀ v ∈ st', ex_okv w'.1.1.length v) → W p l e R s m args below meth c H1 locs1 (w'.1.2.1 - c0) (w'.1.2.2 - s0) Q (F0 m (pc + len) ls (st'.map (ex_cv ad')))) :
    W p l e R s m args below meth c H locs (w.1.2.1 - c0) (w.1.2.2 - s0) Q (F0 m pc ls (st.map (ex_cv ad))) := by
  have k1 : w' = w → (∀ v ∈ st', ex_okv w.1.1.length v) → W p l e R s m args below meth c H locs (w.1.2.1 - c0) (w.1.2.2 - s0) Q (F0 m (pc + len) ls (st'.map (ex_cv ad))) := by
    intro e h9
    subst e
    exact kk ad H locs hR ex_agr.rf h9
  cases ins <;> first | (simp only [ex_heap, reduceCtorEq] at h; done) | skip
  case getfield i => exact ex_h_getfield hexec hb hown hts hU hF hR h hk hd ho k1
  case putfield i => exact ex_h_putfield hexec hb hown hini hts hU hF hR h hk hd ho (kk ad)
  case newarray t => exact ex_h_newarray hexec hb hts hF hR h hk hd ho hc0 hs0 hRc hRs kk
  case new i => exact ex_h_new hexec hb hown hts hU hF hR h hk hd ho hc0 hs0 hRc hRs kk
  case getstatic i => exact ex_h_rest hexec hb hown hts hso hF hR (Or.inl ⟨i, rfl⟩) h hk hd ho k1
  case ldc i => exact ex_h_rest hexec hb hown hts hso hF hR (Or.inr (Or.inl ⟨i, rfl⟩)) h hk hd ho k1
  case ldc_w i => exact ex_h_rest hexec hb hown hts hso hF hR (Or.inr (Or.inr (Or.inl ⟨i, rfl⟩))) h hk hd ho k1
  case ldc2_w i => exact ex_h_rest hexec hb hown hts hso hF hR (Or.inr (Or.inr (Or.inr ⟨i, rfl⟩))) h hk hd ho k1
  all_goals (simp only [ex_hok, decide_eq_true_eq] at hk; subst hk)
  case arraylength => exact ex_h_len hexec hb hF hR h hd ho k1
  case iaload => exact ex_h_load (Or.inl rfl) hexec hb hF hR h hd ho k1
  case baload => exact ex_h_load (Or.inr (Or.inl rfl)) hexec hb hF hR h hd ho k1
  case laload => exact ex_h_load (Or.inr (Or.inr (Or.inl rfl))) hexec hb hF hR h hd ho k1
  case aaload => exact ex_h_load (Or.inr (Or.inr (Or.inr rfl))) hexec hb hF hR h hd ho k1
  case iastore => exact ex_h_store (Or.inl rfl) hexec hb hF hR h hd ho (kk ad)
  case bastore => exact ex_h_store (Or.inr (Or.inl rfl)) hexec hb hF hR h hd ho (kk ad)
  case lastore => exact ex_h_store (Or.inr (Or.inr rfl)) hexec hb hF hR h hd ho (kk ad)
end EXH
