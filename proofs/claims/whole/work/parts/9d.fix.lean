/-! The start's world -/
def zT : List (List Int32) := [[], [0, -4], [0, -3], [0, 0], [0, -2], [0, -1], [0, -5], [0, -6], [0, 0], [0, 0], [0, 0], [0, 0], [0, 0], [0, 0], [0, 0], [0, 0], [0, 0], [0, 0], [0, 0], [0, 0], [0, 0], [0, 0], [0, 0], [0, 0], [0, 0], [0, 0], [0, 0], [0, 0], [0, 0], [0, 0], [0, 0], [0, 0], [0, 0], [0, 0], [0, 0], [99, 97, 114, 100, 115], [104, 101, 97, 112, 115], [108, 105, 101, 115], [119, 105, 115, 104], [100, 101, 97, 108], [110, 97, 109, 101, 100], [115, 105, 122, 101], [116, 117, 114, 110], [102, 114, 111], [114, 117, 110], [117, 110, 100, 101, 114], [111, 118, 101, 114], [97, 116], [111, 114], [97, 110, 100], [110, 111, 116], [], [], [2, 2, 0, 0], [60, 6, 2, 59], [27, 3, 0, 0]]
def zI (xs : Nat → Int32) : Nat → Nat → Int32 := fun a k => if a = 0 then xs k else (zT.getD a []).getD k 0
theorem zI_a {xs : Nat → Int32} {a k : Nat} (h : a ≠ 0) : zI xs a k = (zT.getD a []).getD k 0 := if_neg h
theorem zt_k : ∀ w, w < 17 → (zT.getD (18 + w) []).getD 1 0 = 0 ∧ ∀ i, i < (wtx w).length → (zT.getD (35 + w) []).getD i 0 = nI ((wtx w).getD i 0) := by decide +kernel
theorem zt_w : ∀ w, w < 17 → (zT.getD (w + 1) []).getD 1 0 = wcd (w + 1) ∧ (zT.getD (w + 1) []).getD 1 0 = wV.getD w 0 := by decide +kernel
theorem zt_t : ∀ i, i < 4 → (zT.getD 53 []).getD i 0 = nI (lo i) ∧ (zT.getD 54 []).getD i 0 = nI (hi i) ∧ (zT.getD 55 []).getD i 0 = nI ([27, 3, 0, 0].getD i 0) := by decide +kernel
theorem zt_v : ∀ i, i < 3 → ∀ j, j < 4 → (zT.getD (53 + i) []).getD j 0 = (tV.getD i []).getD j 0 := by decide +kernel
theorem zI_ZP (xs : Nat → Int32) : ZP (zI xs) := by
  refine ⟨fun w hw => ?_, fun W h1 h2 => ?_, fun i hi => ?_⟩
  · rw [zI_a (by omega)]
    refine ⟨(zt_k w hw).1, fun i hi => ?_⟩
    rw [zI_a (by omega)]
    exact (zt_k w hw).2 i hi
  · rw [zI_a (by omega)]
    have := (zt_w (W - 1) (by omega)).1
    rw [show W - 1 + 1 = W by omega] at this
    exact this
  · rw [zI_a (by decide), zI_a (by decide), zI_a (by decide)]
    exact zt_t i hi
def shT (i : Nat) : ex_Sh := if i < 17 then .inl 100 else if i < 34 then .inl 101 else if i < 51 then .inr (.byte, (wtx (i - 34)).length) else if i = 51 then .inr (.object wE, 17) else if i < 55 then .inr (.int, 4) else .inl 999
theorem sh_at : ∀ i, i < 57 → (pg_S.take 57)[i]? = some (shT i) := by decide +kernel
theorem sh_w : ∀ i, i < 57 → shT i = .inl 100 → i < 17 := by decide +kernel
theorem rz_g {fm : Option Nat} {a k : Nat} (h : a < 56) : Rz fm a k = (pg_RL.getD a []).getD k none := by
  unfold Rz pg_R
  rw [if_pos (by omega), if_neg (by omega), if_neg (by omega), if_pos (by omega)]
theorem rl_w : ∀ i, i < 34 → (pg_RL.getD (i + 1) []).getD 0 none = some (i + 18) := by decide +kernel
theorem rl_a : ∀ j, j < 17 → (pg_RL.getD 52 []).getD j none = some (j + 1) := by decide +kernel
theorem rl_in : ∀ i, i < 58 → (pg_RL.getD i []).all (fun x => match x with
    | some r => decide (r < 58)
    | none => true) = true := by decide +kernel
theorem rz_in {fm : Option Nat} (hf : fm = none ∨ fm = some 57) (i k r : Nat) (h : Rz fm i k = some r) : r < 58 := by
  unfold Rz at h
  by_cases l : i < 58
  · rw [if_pos l] at h
    unfold pg_R at h
    rw [if_neg (by omega)] at h
    by_cases e : i = 56
    · rw [if_pos e] at h
      by_cases z : k = 0
      · rw [if_pos z] at h
        rcases hf with rfl | rfl
        · cases h
        · cases h; decide
      · rw [if_neg z] at h
        cases h
    · rw [if_neg e, if_pos (by omega)] at h
      have := rl_in i l
      rw [List.getD_eq_getElem?_getD] at h
      cases g : (pg_RL.getD i [])[k]? with
      | none => rw [g] at h; cases h
      | some x =>
        rw [g] at h
        have h : x = some r := h
        have q := List.all_eq_true.mp this x (List.mem_of_getElem? g)
        rw [h] at q
        exact of_decide_eq_true q
  · rw [if_neg l] at h
    cases h
theorem T_congr {ty : FieldType} {t N : Nat} {f g : Nat → Value} {A : Nat → Prop} {U : State} {H : Heap} (h : va_T ty t N f A U H) (e : ∀ j, j < N → f j = g j) : va_T ty t N g A U H := by
  obtain ⟨cell, h1, h2, h3, h4, h5, h6, h7⟩ := h
  exact ⟨cell, h1, h2, h3, h4, h5, fun j hj => by rw [← e j hj]; exact h6 j hj, h7⟩
section ST
variable {args : Array Value} {s : State} {A : Nat → Prop}
theorem st_arr {ty : FieldType} (h : (Cond.arrayClass ty).before args s = true) : ∃ c : ClassId, ArrOfT s c ty ∧ s.vm.findClass ("[" ++ ty.toString) = some c := by
  obtain ⟨c, k, comp, h1, h2, h3⟩ := Cond.arrayClass_spec (args := args) (first := s) (o := none) (s := s) (idx := []) h
  exact ⟨c, fun n z => ⟨fun k h => (by cases h), k, h2, comp, h3⟩, h1⟩
theorem nt_in : ∀ ci, ci < 10 → tables_1[([186, 296, 83, 89, 218, 318, 35, 267, 27, 1122] : List Nat).getD ci 0]? = some (Cond.instantiable (vwCl.getD ci ("", TX0, 0)).1 (vwCl.getD ci ("", TX0, 0)).2.2) := by decide +kernel
theorem st_K (hts : ∀ w ∈ lw_tbl, w.before args s = true) : ∃ (D : va_G) (cA : FieldType → ClassId), va_K D vwCl (ex_tys cA) s := by
  have h0 : ∀ ci : Nat, ∃ x : ClassId × (Nat → Nat), ∀ q, vwCl[ci]? = some q → u_Kn s q.1 q.2.1 q.2.2 x.1 x.2 := by
    intro ci
    cases hq : vwCl[ci]? with
    | none => exact ⟨((0 : Nat), fun _ => 0), fun q h => by cases h⟩
    | some q =>
      have hl : ci < 10 := (List.getElem?_eq_some_iff.mp hq).1
      have e : vwCl.getD ci ("", TX0, 0) = q := by rw [List.getD_eq_getElem?_getD, hq]; rfl
      have hi := tb_before hts _ _ (nt_in ci hl)
      rw [e] at hi
      obtain ⟨c, iS, h⟩ := u_known hts (fun w hw => pg_T_in w (pg_hU ci q hq w hw)) hi
      exact ⟨(c, iS), fun q' h' => by cases h'; exact h⟩
  obtain ⟨f, hf⟩ := Classical.axiomOfChoice h0
  obtain ⟨c1, a1, b1⟩ := st_arr (tb_before hts _ _ nt_aint)
  obtain ⟨c2, a2, b2⟩ := st_arr (tb_before hts _ _ nt_abyte)
  obtain ⟨c3, a3, b3⟩ := st_arr (tb_before hts _ _ nt_aboolean)
  obtain ⟨c4, a4, b4⟩ := st_arr (tb_before hts _ _ nt_along)
  refine ⟨(fun ci => (f ci).1, fun ci => (f ci).2), fun ty => match ty with
    | .int => c1
    | .byte => c2
    | .boolean => c3
    | _ => c4, fun ci q hq => hf ci q hq, fun k q hq => ?_⟩
  match k, hq with
  | 0, hq => cases hq; exact ⟨a1, b1⟩
  | 1, hq => cases hq; exact ⟨a2, b2⟩
  | 2, hq => cases hq; exact ⟨a3, b3⟩
  | 3, hq => cases hq; exact ⟨a4, b4⟩
  | n + 4, hq => exact absurd hq (by simp [ex_tys])
theorem st_W (hts : ∀ w ∈ lw_tbl, w.before args s = true) (hgv : (Jvm.Cond.and given_1 narrow_1).before args s = true) (hA : ∀ a : Nat, a < s.heap.size → ¬ A a) : ∃ aW : Nat → Nat, (∀ i, i < 17 → va_Z wE (wN.getD i "") wD (.ref (aW i)) A s s.heap ∧ va_O wE (aW i) A s s.heap ∧ va_OF wE "value" "I" (.int (wV.getD i 0)) (aW i) A s s.heap) ∧ (∀ i j, i < 17 → j < 17 → aW i = aW j → i = j) ∧ ∀ i, i < 17 → (wS i).eval args s none [] s = some (.ref (aW i)) := by
  obtain ⟨aW, ⟨h1, h2⟩, h3⟩ := va_Enof2 (args := args) (s := s) (E := wE) (d := wD) (nm := wN) (F := [(wE, "value", "I", wV)]) (A := A) (fun i hi => tb_before hts _ _ (nt_ls i hi)) (tb_before hts _ _ nt_iw) (fun i hi => FA_before hgv _ _ (na_ex i hi)) (fun q hq i hi => by
      rw [List.mem_singleton] at hq
      subst hq
      exact FA_before hgv _ _ (na_va i hi)) (fun i j hi hj hne => by
      rcases na_ne i hi j hj with h | h | h
      · exact absurd h hne
      · exact Or.inl (FA_before hgv _ _ h)
      · exact Or.inr (FA_before hgv _ _ h)) hA
  exact ⟨aW, fun i hi => ⟨(h1 i hi).1, (h1 i hi).2.1, (h1 i hi).2.2 _ List.mem_cons_self⟩, h2, h3⟩
theorem st_S (hgv : (Jvm.Cond.and given_1 narrow_1).before args s = true) (hA : ∀ a : Nat, a < s.heap.size → ¬ A a) : ∃ aK aV : Nat → Nat, ∀ i, i < 17 → (wK i).eval args s none [] s = some (.ref (aK i)) ∧ va_O "java/lang/String" (aK i) A s s.heap ∧ va_OF "java/lang/String" "coder" "B" (.int 0) (aK i) A s s.heap ∧ va_OF "java/lang/String" "value" "[B" (.ref (aV i)) (aK i) A s s.heap ∧ va_T .byte (aV i) (wtx i).length (fun j => .int (nI ((wtx i).getD j 0))) A s s.heap := by
  have hw : ∀ i, i < 17 → (wtx i).length < 2 ^ 31 := by decide
  have h0 : ∀ i : Nat, ∃ q : Nat × Nat, i < 17 → (wK i).eval args s none [] s = some (.ref q.1) ∧ va_O "java/lang/String" q.1 A s s.heap ∧ va_OF "java/lang/String" "coder" "B" (.int 0) q.1 A s s.heap ∧ va_OF "java/lang/String" "value" "[B" (.ref q.2) q.1 A s s.heap ∧ va_T .byte q.2 (wtx i).length (fun j => .int (nI ((wtx i).getD j 0))) A s s.heap := by
    intro i
    by_cases hi : i < 17
    · obtain ⟨a, c, cA, kA, q1, q2, q3, q4, q5, q6, -⟩ := Cond.exactly_spec (args := args) (first := s) (o := none) (s := s) (idx := []) (t := wK i) (cls := "java/lang/String") (FA_before hgv _ _ (na_kx i hi))
      obtain ⟨t, ht, hT⟩ := va_Tof (tm := wF i) (f := fun j => .int (nI ((wtx i).getD j 0))) (A := A) (hw i hi) (FA_before hgv _ _ (na_ka i hi)) (va_eqt (FA_before hgv _ _ (na_kl i hi))) (fun j hj => va_eqt (FA_before hgv _ _ (na_ke i hi j hj))) hA
      exact ⟨(a, t), fun _ => ⟨q1, ⟨cA, q3, q5, by rw [q6]; exact q2, hA a (Array.getElem?_eq_some_iff.mp q3).1⟩, vk_OFof q1 (va_eqt (FA_before hgv _ _ (na_kc i hi))) hA, vk_OFof q1 ht hA, hT⟩⟩
    · exact ⟨(0, 0), fun h => absurd h hi⟩
  obtain ⟨ad, had⟩ := Classical.axiomOfChoice h0
  exact ⟨fun i => (ad i).1, fun i => (ad i).2, fun i hi => had i hi⟩
theorem st_T (hgv : (Jvm.Cond.and given_1 narrow_1).before args s = true) (hA : ∀ a : Nat, a < s.heap.size → ¬ A a) : ∃ aT : Nat → Nat, ∀ i, i < 3 → (tS i).eval args s none [] s = some (.ref (aT i)) ∧ va_T .int (aT i) 4 (fun j => .int ((tV.getD i []).getD j 0)) A s s.heap := by
  have h0 : ∀ i : Nat, ∃ t : Nat, i < 3 → (tS i).eval args s none [] s = some (.ref t) ∧ va_T .int t 4 (fun j => .int ((tV.getD i []).getD j 0)) A s s.heap := by
    intro i
    by_cases hi : i < 3
    · obtain ⟨t, ht, hT⟩ := va_Tof (tm := tS i) (N := 4) (f := fun j => .int ((tV.getD i []).getD j 0)) (A := A) (by decide) (FA_before hgv _ _ (na_ta i hi)) (va_eqt (FA_before hgv _ _ (na_tl i hi))) (fun j hj => va_eqt (FA_before hgv _ _ (na_te i hi j hj))) hA
      exact ⟨t, fun _ => ⟨ht, hT⟩⟩
    · exact ⟨0, fun h => absurd h hi⟩
  exact Classical.axiomOfChoice h0
end ST
