/-! A call as the kit has it, out of the small machine's run of the callee -/
section EXR
variable {l : Launch} {Ts Ns : List Cond} {mt : Nat → Option ex_M} {mp : Nat → List Nat} {tsl : List (String × Nat × Nat)} {ro : Nat} {sts : List ex_St}
variable {p : Program} {e : Env} {R : Room} {s : State} {m : MethodId} {args : Array Value} {below : List Frame} {meth : Method} {c : Code} {H : Heap} {locs : List Loc} {ls : Array Slot} {ad : Nat → Nat} {D : va_G} {cA : FieldType → ClassId} {z0 : Nat} {Q : State → Prop} {cells slots : Nat}
theorem ex_go {mc ms pc : Nat} {st0 rest : List Value} {Qa : State → Outcome → State → Prop} {free : Addr → Prop} (hr : va_Run p l e R s m args below meth c H locs cells slots mc ms (F0 m pc ls st0) rest Qa free)
    (kk : ∀ (v : Option Value) (st₀ t : State) (L : List Loc), st₀.heap = H → s.vm.Alike t.vm → Qa st₀ (.returned v) t → (∀ q ∈ L, free q.base) → W p l e R s m args below meth c t.heap (locs ++ L) (cells + mc) (slots + ms) Q (F0 m (pc + 3) ls (v.toList ++ rest))) :
    W p l e R s m args below meth c H locs cells slots Q (F0 m pc ls st0) := by
  intro T hT X
  obtain ⟨v, st₀, t, T', L, h0, X', hL, e1, e2, hq, st⟩ := hr T hT X
  obtain ⟨t2, a1, b1⟩ := kk v st₀ t L h0 (by rw [← e2]; exact X'.warmed.alike) hq hL T' e1 X'
  exact ⟨t2, st t2 a1, b1⟩
theorem ex_catsum {ad : Nat → Nat} (st : List Value) : ((st.map (ex_cv ad)).map fun v => v.category).sum = (st.map fun v => v.category).sum := by
  rw [List.map_map]
  congr 1
  exact List.map_congr_left fun v _ => ex_cv_cat ad v
theorem ex_rcv_of {w : ex_W} {ci : Nat} {as : List Value} (h : ex_rcv ro w ci as = true) : ∃ (a : Nat) (As : List Value), as = .ref a :: As ∧ w.1.1[a]? = some (.inl ci) ∧ (ci < 100 ∧ ro ≤ a ∨ 100 ≤ ci ∧ ¬ ro ≤ a) := by
  unfold ex_rcv at h
  split at h
  · next a As =>
    split at h
    · next cj hcj =>
      obtain ⟨rfl, h2⟩ := of_decide_eq_true h
      exact ⟨a, As, rfl, hcj, h2⟩
    · cases h
  · cases h
theorem ex_recv {w : ex_W} {ci a : Nat} (hF : ex_Fix D cA z0 ro sts Ns ad w s) (hR : ex_Rel D cA z0 ro ad w s H locs) (hsh : w.1.1[a]? = some (.inl ci)) (h : ci < 100 ∧ ro ≤ a ∨ 100 ≤ ci ∧ ¬ ro ≤ a) (hv : ci < 100 → ∃ q, vwCl[ci]? = some q) (h200 : ci < 200) : ∃ cell : Cell, H[ad a]? = some cell ∧ cell.vm.isStatics = false ∧ s.vm.findClass (ex_cn1 ci) = some cell.cls := by
  rcases h with ⟨h1, h2⟩ | ⟨h1, h2⟩
  · obtain ⟨q, hq⟩ := hv h1
    have e : ex_cn1 ci = q.1 := by rw [ex_cn1, if_pos h1, hq]
    rw [e]
    exact va_recv hF.1 hR.1 hq (ex_ws_get (cA := cA) (ad := ad) hsh h2)
  · have e : ex_cn1 ci = ex_rn ci := by rw [ex_cn1, if_neg (by omega)]
    rw [e]
    obtain ⟨cell, g1, g2, g3, -⟩ := ((hF.2.2.1 a _ (Nat.not_le.mp h2) hsh) h200).1.kept hR.2.2.1.2.1
    exact ⟨cell, g1, g2, g3⟩
/-- what a call's row says, in one place -/
def ex_Lk (Ts Ns : List Cond) (own : String) (idx : Nat) (y : MethodName) (nest : Bool) : Prop := if nest = true then Cond.methodLinkNest own idx y "PileTricks" ∈ Ns else Cond.methodLink own idx y ∈ Ts
theorem ex_cl_of {own : String} {idx : Nat} {r : List Nat} {k : Int32} {M : ex_M} {ps : List Nat} {kv extra : Nat} {ks : List Nat} (h : ex_cl Ts Ns own idx r k M ps kv ks extra = true) :
    ps.getD 2 0 = kv ∧ r.getD 0 0 ∈ ks ∧ (∀ sig, parseMethodDescriptor M.1.desc = some sig → r.getD 2 0 = sig.parameters.length + extra) ∧ ex_Lk Ts Ns own idx M.1 (decide (r.getD 0 0 = 1 ∨ r.getD 0 0 = 3 ∨ r.getD 0 0 = 5)) := by
  simp only [ex_cl, Bool.and_eq_true, decide_eq_true_eq] at h
  obtain ⟨⟨⟨h1, h2⟩, h3⟩, h4⟩ := h
  refine ⟨h1, h2, fun sig hs => ?_, ?_⟩
  · rw [hs] at h3; exact (Option.some.inj h3).symm
  · unfold ex_Lk
    by_cases hc : r.getD 0 0 = 1 ∨ r.getD 0 0 = 3 ∨ r.getD 0 0 = 5
    · rw [if_pos hc] at h4; rw [if_pos (decide_eq_true hc)]; exact List.mem_of_getElem? (of_decide_eq_true h4)
    · rw [if_neg hc] at h4; rw [if_neg (fun q => hc (of_decide_eq_true q))]; exact List.mem_of_getElem? (of_decide_eq_true h4)
theorem ex_wds {M : ex_M} {ps : List Nat} (hG : ∀ w ∈ Ts, goodWord w = true) (hts : ∀ w ∈ Ts, w.before args s = true) (hmw : ex_mw Ts M ps = true) (hcw : ps.getD 2 0 ≠ 3 → ex_cw M ∈ Ts) : ps.getD 2 0 ≠ 3 → (∀ w ∈ ex_wd Ts M, ∀ (a' : Array Value) (U : State), s.WarmedH U.vm → w.before a' U = true) ∧ (Cond.initialized M.1.cls).before args s = true ∧ ex_cw M ∈ Ts := by
  intro h3
  simp only [ex_mw, Bool.and_eq_true, decide_eq_true_eq] at hmw
  obtain ⟨h2, -⟩ := hmw
  have hin := hcw h3
  refine ⟨fun w hw a' U hW => ?_, hts _ (List.mem_of_getElem? h2), hin⟩
  have hw2 : w ∈ Ts := by
    rcases List.mem_cons.mp hw with rfl | hw
    · exact hin
    · exact hw
  exact word_at hW (good_of_word (hG w hw2)) (hts w hw2)
theorem ex_mw_st {M : ex_M} {ps : List Nat} (hmw : ex_mw Ts M ps = true) : (ps.getD 2 0 = 0 → Cond.static M.1 ∈ Ts) ∧ (ps.getD 2 0 = 1 → Cond.instanceMethod M.1 ∈ Ts ∧ Cond.selects M.1.cls M.1 M.1 ∈ Ts) ∧ (ps.getD 2 0 = 2 → Cond.instanceMethod M.1 ∈ Ts ∧ M.1.name = "<init>") := by
  simp only [ex_mw, Bool.and_eq_true, decide_eq_true_eq] at hmw
  obtain ⟨-, h3⟩ := hmw
  refine ⟨fun h => ?_, fun h => ?_, fun h => ?_⟩
  · rw [h] at h3; exact List.mem_of_getElem? (of_decide_eq_true h3)
  · rw [h] at h3
    simp only [Bool.and_eq_true, decide_eq_true_eq] at h3
    exact ⟨List.mem_of_getElem? h3.1, List.mem_of_getElem? h3.2⟩
  · rw [h] at h3
    simp only [Bool.and_eq_true, decide_eq_true_eq] at h3
    exact ⟨List.mem_of_getElem? h3.1, h3.2⟩
/-- the parts that all calls share -/
theorem ex_PreS {w : ex_W} {as : List Value} (hH : ex_Hyp l Ts Ns mt mp tsl ro sts) (hF : ex_Fix D cA z0 ro sts Ns ad w s) (hR : ex_Rel D cA z0 ro ad w s H locs) : PreS s H (ex_Pc D cA z0 ro sts Ns ad w as) (as.map (ex_cv ad)) :=
  ⟨ex_blind hH.2.2.2.2.2.1, fun U hU hW => ⟨rfl, hF.at hR.2.2.1 hU hW.alike (fun x hx => ex_nok_warm (hH.2.2.2.2.2.1 x hx) hW (hF.2.2.2.2.1 x hx)), by rw [hU]; exact hR.1⟩⟩
set_option maxHeartbeats 4000000 in
theorem ex_vrun {n d mi pc idx : Nat} {M0 M : ex_M} {ins : Instr} {r : List Nat} {k : Int32} {w w' : ex_W} {as rest : List Value} {v : Option Value} (hH : ex_Hyp l Ts Ns mt mp tsl ro sts) (hA : ex_AA l Ts Ns mt mp tsl ro sts n) (hM : mt (r.getD 1 0) = some M) (hC : ex_Cx p l R s m args meth c Ts M0 (d + 1))
    (hF : ex_Fix D cA z0 ro sts Ns ad w s) (hR : ex_Rel D cA z0 ro ad w s H locs) (hlz : ls.size = M0.2.2.1) (hi : ins = .invokevirtual idx ∨ ins = .invokestatic idx ∨ ins = .invokespecial idx) (hdec : decode M0.2.1 pc = .ok (ins, 3)) (hk67 : r.getD 0 0 ≠ 6 ∧ r.getD 0 0 ≠ 7) (hk : ex_cok Ts Ns mt mp M0 pc ins r k = true)
    (h : ex_me mt (ex_run ro mt n) d (r.getD 1 0) as w = some (.inl v, w')) (ho : ∀ v ∈ as, ex_okv w.1.1.length v) (has : as.length = r.getD 2 0) (hsum : (rest.map fun v => v.category).sum ≤ 8) (hrcv : r.getD 0 0 = 2 ∨ r.getD 0 0 = 3 ∨ r.getD 0 0 = 8 ∨ ex_rcv ro w (r.getD 3 0) as = true)
    (hcells : cells + (w'.1.2.1 - w.1.2.1) ≤ R.cells) (hslots : slots + (w'.1.2.2 - w.1.2.2) ≤ R.slots) :
    va_Run p l e R s m args below meth c H locs cells slots (w'.1.2.1 - w.1.2.1) (w'.1.2.2 - w.1.2.2) (F0 m pc ls (as.reverse.map (ex_cv ad) ++ rest.map (ex_cv ad))) (rest.map (ex_cv ad)) (ex_Qc D cA z0 ro sts ad w w' v #[]) (fun q => z0 ≤ q) := by
  have hMet := ex_Met (D := D) (cA := cA) (z0 := z0) (ad := ad) hH hA hM h ho hR.2.2.2.1 hR.2.2.2.2 hR.2.1
  have hmok := hH.2.1 _ M hM
  simp only [ex_mok, Bool.and_eq_true, decide_eq_true_eq] at hmok
  obtain ⟨⟨⟨⟨⟨⟨⟨hmw, hpl⟩, hn1⟩, hn2⟩, hcl⟩, hnL⟩, -⟩, -⟩ := hmok
  have hq := ex_wds hH.2.2.2.2.1 hC.2.2.2.2.1 hmw (hH.2.2.2.2.2.2.2.1 _ M hM)
  obtain ⟨u1, u2, u3⟩ := ex_mw_st hmw
  have hS : CallFix p m c M0.2.1 M0.2.2.1 s args Ts M0.2.2.2.2.1 := ⟨hC.1, hC.2.1, hC.2.2.1, hC.2.2.2.1, hC.2.2.2.2.1⟩
  have hfr : (ex_rm d (w'.1.2.1 - w.1.2.1) (w'.1.2.2 - w.1.2.2)).frames + 1 ≤ R.frames := by have := hC.2.2.2.2.2.2.2.2.1; show d + 6 + 1 ≤ _; omega
  have hlo : 8 + (M.2.2.1 + 11) + (ex_rm d (w'.1.2.1 - w.1.2.1) (w'.1.2.2 - w.1.2.2)).locals ≤ R.locals := by have := hC.2.2.2.2.2.2.2.2.2; show 8 + (M.2.2.1 + 11) + (64 * d + 140) ≤ _; omega
  have hroom : ∀ (pc : Nat) (st : List Value), 2 * (F0 m pc ls st).monitorRoom + ((rest.map (ex_cv ad)).map fun v => v.category).sum ≤ 8 := fun pc st => lv_room (by rw [ex_catsum]; exact hsum)
  have hts := hC.2.2.2.2.1
  have hNw : ∀ x ∈ Ns, x.before args s = true := fun x hx => va_Nw.use (ex_nok_on (hH.2.2.2.2.2.1 x hx)) (hF.2.2.2.2.1 x hx)
  rcases hi with rfl | rfl | rfl
  · simp only [ex_cok, hM, Bool.and_eq_true, decide_eq_true_eq] at hk
    obtain ⟨⟨⟨hk1, hk2⟩, hk3⟩, -⟩ := hk
    obtain ⟨g1, g2, g3, g4⟩ := ex_cl_of hk1
    obtain ⟨q1, q2, q3⟩ := hq (by rw [g1]; decide)
    obtain ⟨i1, i2⟩ := u2 g1
    have hcode : Cond.code M.1 M.2.1 M.2.2.1 M.2.2.2.1 ∈ Ts := by rw [ex_cw, if_pos hk3] at q3; exact q3
    have hcw : Cond.code M.1 M.2.1 M.2.2.1 M.2.2.2.1 ∈ ex_wd Ts M := by rw [ex_wd, ex_cw, if_pos hk3]; exact List.mem_cons_self
    have hrv : ex_rcv ro w (r.getD 3 0) as = true := by
      simp only [List.mem_cons, List.not_mem_nil, or_false] at g2
      rcases hrcv with h | h | h | h
      · omega
      · omega
      · omega
      · exact h
    obtain ⟨a, As, rfl, hsh, hca⟩ := ex_rcv_of hrv
    have hcell := ex_recv hF hR hsh hca (fun h => ⟨vwCl[r.getD 3 0]'(show r.getD 3 0 < 10 by omega), List.getElem?_eq_getElem _⟩) (by omega)
    rw [← hk2.1] at hcell
    have hpre : PreV s H M.1.cls (ad a) (ex_Pc D cA z0 ro sts Ns ad w (.ref a :: As)) (As.map (ex_cv ad)) := ⟨ex_blind hH.2.2.2.2.2.1, hcell, (ex_PreS hH hF hR).2⟩
    have hnA : ∀ sig, parseMethodDescriptor M.1.desc = some sig → (As.map (ex_cv ad)).length = sig.parameters.length := fun sig hs => by
      have := g3 sig hs
      rw [List.length_map]
      rw [List.length_cons] at has
      omega
    have hstk : ((Value.ref a :: As).reverse.map (ex_cv ad) ++ rest.map (ex_cv ad)) = (As.map (ex_cv ad)).reverse ++ .ref (ad a) :: rest.map (ex_cv ad) := by
      rw [List.reverse_cons, List.map_append, List.map_reverse, List.append_assoc]; rfl
    rw [hstk]
    unfold ex_Lk at g4
    by_cases hc : r.getD 0 0 = 1 ∨ r.getD 0 0 = 3 ∨ r.getD 0 0 = 5
    · rw [if_pos (decide_eq_true hc)] at g4
      exact va_runVN (n := (As.map (ex_cv ad)).length) (host := "PileTricks") hS hMet ⟨⟨⟨rfl, rfl, hfr, hlo, q1, hcw⟩, hts _ hcode, q2, ⟨hn1, hn2⟩, hnA, hNw _ g4⟩, hts _ i1, hts _ i2⟩ hpre rfl rfl hlz rfl (hroom _ _) hdec ⟨hcells, hslots⟩
    · rw [if_neg (fun q => hc (of_decide_eq_true q))] at g4
      exact va_runV (n := (As.map (ex_cv ad)).length) hS hMet ⟨⟨rfl, rfl, hfr, hlo, q1, hcw, hts _ hcode, q2, ⟨hn1, hn2⟩, hnA, hts _ g4⟩, hts _ i1, hts _ i2⟩ hpre rfl rfl hlz rfl (hroom _ _) hdec ⟨hcells, hslots⟩
  · rw [ex_cok, if_neg hk67.2] at hk
    simp only [hM, Bool.and_eq_true, decide_eq_true_eq] at hk
    obtain ⟨hk1, hk3⟩ := hk
    obtain ⟨g1, g2, g3, g4⟩ := ex_cl_of hk1
    obtain ⟨q1, q2, q3⟩ := hq (by rw [g1]; decide)
    have i1 := u1 g1
    have hnA : ∀ sig, parseMethodDescriptor M.1.desc = some sig → (as.map (ex_cv ad)).length = sig.parameters.length := fun sig hs => by
      have := g3 sig hs
      rw [List.length_map]
      omega
    have hstk : (as.reverse.map (ex_cv ad) ++ rest.map (ex_cv ad)) = (as.map (ex_cv ad)).reverse ++ rest.map (ex_cv ad) := by rw [List.map_reverse]
    rw [hstk]
    unfold ex_Lk at g4
    by_cases h8 : r.getD 0 0 = 8
    · have hne := hk3.mp h8
      rw [if_neg (fun q => by have := of_decide_eq_true q; omega)] at g4
      have hcode : Cond.codeWith M.1 M.2.1 M.2.2.1 M.2.2.2.1 M.2.2.2.2.2.2 ∈ Ts := by rw [ex_cw, if_neg hne] at q3; exact q3
      have hcw : Cond.codeWith M.1 M.2.1 M.2.2.1 M.2.2.2.1 M.2.2.2.2.2.2 ∈ ex_wd Ts M := by rw [ex_wd, ex_cw, if_neg hne]; exact List.mem_cons_self
      exact vx_runSW (As := as.map (ex_cv ad)) (n := (as.map (ex_cv ad)).length) hS hMet ⟨⟨rfl, rfl, hfr, hlo, q1, hcw⟩, hts _ hcode, q2, ⟨hn1, hn2⟩, hnA, hts _ g4, hts _ i1⟩ (ex_PreS hH hF hR) rfl rfl hlz rfl (hroom _ _) hdec ⟨hcells, hslots⟩
    · have hne : M.2.2.2.2.2.2 = [] := Classical.byContradiction (fun q => h8 (hk3.mpr q))
      have hcode : Cond.code M.1 M.2.1 M.2.2.1 M.2.2.2.1 ∈ Ts := by rw [ex_cw, if_pos hne] at q3; exact q3
      have hcw : Cond.code M.1 M.2.1 M.2.2.1 M.2.2.2.1 ∈ ex_wd Ts M := by rw [ex_wd, ex_cw, if_pos hne]; exact List.mem_cons_self
      by_cases hc : r.getD 0 0 = 1 ∨ r.getD 0 0 = 3 ∨ r.getD 0 0 = 5
      · rw [if_pos (decide_eq_true hc)] at g4
        exact va_runSN (As := as.map (ex_cv ad)) (n := (as.map (ex_cv ad)).length) (host := "PileTricks") hS hMet ⟨⟨⟨rfl, rfl, hfr, hlo, q1, hcw⟩, hts _ hcode, q2, ⟨hn1, hn2⟩, hnA, hNw _ g4⟩, hts _ i1, trivial⟩ (ex_PreS hH hF hR) rfl rfl hlz rfl (hroom _ _) hdec ⟨hcells, hslots⟩
      · rw [if_neg (fun q => hc (of_decide_eq_true q))] at g4
        exact va_runS (As := as.map (ex_cv ad)) (n := (as.map (ex_cv ad)).length) hS hMet ⟨⟨rfl, rfl, hfr, hlo, q1, hcw, hts _ hcode, q2, ⟨hn1, hn2⟩, hnA, hts _ g4⟩, hts _ i1⟩ (ex_PreS hH hF hR) rfl rfl hlz rfl (hroom _ _) hdec ⟨hcells, hslots⟩
  · rw [ex_cok, if_neg hk67.1] at hk
    simp only [hM, Bool.and_eq_true, decide_eq_true_eq] at hk
    obtain ⟨⟨hk1, hk2⟩, hk3⟩ := hk
    obtain ⟨g1, g2, g3, g4⟩ := ex_cl_of hk1
    obtain ⟨q1, q2, q3⟩ := hq (by rw [g1]; decide)
    obtain ⟨i1, i2⟩ := u3 g1
    have hcode : Cond.code M.1 M.2.1 M.2.2.1 none ∈ Ts := by rw [ex_cw, if_pos hk3, hk2] at q3; exact q3
    have hcw : Cond.code M.1 M.2.1 M.2.2.1 none ∈ ex_wd Ts M := by rw [ex_wd, ex_cw, if_pos hk3, hk2]; exact List.mem_cons_self
    have hrv : ex_rcv ro w (r.getD 3 0) as = true := by
      simp only [List.mem_cons, List.not_mem_nil, or_false] at g2
      rcases hrcv with h | h | h | h
      · omega
      · omega
      · omega
      · exact h
    obtain ⟨a, As, rfl, hsh, hca⟩ := ex_rcv_of hrv
    have hnA : ∀ sig, parseMethodDescriptor M.1.desc = some sig → (As.map (ex_cv ad)).length = sig.parameters.length := fun sig hs => by
      have := g3 sig hs
      rw [List.length_map]
      rw [List.length_cons] at has
      omega
    have hstk : ((Value.ref a :: As).reverse.map (ex_cv ad) ++ rest.map (ex_cv ad)) = (As.map (ex_cv ad)).reverse ++ .ref (ad a) :: rest.map (ex_cv ad) := by
      rw [List.reverse_cons, List.map_append, List.map_reverse, List.append_assoc]; rfl
    rw [hstk]
    unfold ex_Lk at g4
    by_cases hc : r.getD 0 0 = 1 ∨ r.getD 0 0 = 3 ∨ r.getD 0 0 = 5
    · rw [if_pos (decide_eq_true hc)] at g4
      exact va_runIN (n := (As.map (ex_cv ad)).length) (host := "PileTricks") hS hMet ⟨⟨⟨rfl, rfl, hfr, hlo, q1, hcw⟩, hts _ hcode, q2, ⟨hn1, hn2⟩, hnA, hNw _ g4⟩, i2, hts _ i1⟩ (ex_PreS (as := .ref a :: As) hH hF hR) rfl rfl hlz rfl (hroom _ _) hdec ⟨hcells, hslots⟩
    · rw [if_neg (fun q => hc (of_decide_eq_true q))] at g4
      exact va_runI (n := (As.map (ex_cv ad)).length) hS hMet ⟨⟨rfl, rfl, hfr, hlo, q1, hcw, hts _ hcode, q2, ⟨hn1, hn2⟩, hnA, hts _ g4⟩, i2, hts _ i1⟩ (ex_PreS (as := .ref a :: As) hH hF hR) rfl rfl hlz rfl (hroom _ _) hdec ⟨hcells, hslots⟩
end EXR
