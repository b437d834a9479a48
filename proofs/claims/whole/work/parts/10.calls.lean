/-! Contracts, calls, throws -/
section EXC
variable {l : Launch} {Ts Ns : List Cond} {mt : Nat → Option ex_M} {mp : Nat → List Nat} {tsl : List (String × Nat × Nat)} {ro : Nat} {sts : List ex_St}
theorem ex_Met {n d mi : Nat} {M : ex_M} {w w' : ex_W} {as : List Value} {v : Option Value} {D : va_G} {cA : FieldType → ClassId} {z0 : Nat} {ad : Nat → Nat} (hH : ex_Hyp l Ts Ns mt mp tsl ro sts) (hA : ex_AA l Ts Ns mt mp tsl ro sts n) (hM : mt mi = some M)
    (h : ex_me mt (ex_run ro mt n) d mi as w = some (.inl v, w')) (ho : ∀ v ∈ as, ex_okv w.1.1.length v) (hin : ex_rin w) (hro : ro ≤ w.1.1.length) (hD : va_D (fun q => z0 ≤ q) (ex_ws cA ro ad w)) :
    Met l M.1 (ex_wd Ts M) (ex_rm d (w'.1.2.1 - w.1.2.1) (w'.1.2.2 - w.1.2.2)) (ex_Pc D cA z0 ro sts Ns ad w as) (ex_Qc D cA z0 ro sts ad w w' v) (w'.1.2.1 - w.1.2.1) (w'.1.2.2 - w.1.2.2) (fun q => z0 ≤ q) := by
  have hmok := hH.2.1 mi M hM
  simp only [ex_mok, Bool.and_eq_true, decide_eq_true_eq] at hmok
  obtain ⟨⟨⟨⟨⟨⟨⟨-, hpl⟩, -⟩, -⟩, hcl⟩, -⟩, -⟩, -⟩ := hmok
  obtain ⟨M', hM', hl, row, L1, lo1, st1, w1, hr, hf⟩ := ex_me_of h
  cases hM.symm.trans hM'
  by_cases hh : M.2.2.2.2.2.2 = []
  · have hw : ex_wd Ts M = .code M.1 M.2.1 M.2.2.1 M.2.2.2.1 :: Ts := by rw [ex_wd, ex_cw, if_pos hh]
    refine va_MetF hpl.1 hw ?_
    intro p e s m args below meth c s₁ B hml hP
    obtain ⟨rfl, hP2⟩ := hP
    have hts := atoms_spec (ws := ex_wd Ts M) B.pre
    rw [hw] at hts
    refine ex_ends hH hA hM hl hr hf ho hin hro hD ⟨B.exec, B.bytes, hml, by rw [← hcl]; exact findClass_of_methodNamed B.named, fun w h => hts w (List.mem_cons_of_mem _ h), B.notSynchronized, fun h => ?_, ?_, Nat.le_refl _, Nat.le_refl _⟩ B.returns ⟨rfl, hP2⟩
    · rw [(name_of_methodNamed B.named B.method).1]; exact eq_of_beq h
    · obtain ⟨meth9, c9, h1, h2, -, -, -, -, h7, -⟩ := Cond.code_spec B.named (hts _ List.mem_cons_self)
      cases Option.some.inj (h1.symm.trans B.method)
      cases Option.some.inj (h2.symm.trans (Stand.of_body B).code)
      rw [Array.isEmpty_iff.mp h7, hh]; rfl
  · have hw : ex_wd Ts M = .codeWith M.1 M.2.1 M.2.2.1 M.2.2.2.1 M.2.2.2.2.2.2 :: Ts := by rw [ex_wd, ex_cw, if_neg hh]
    refine va_MetW (hpl.2.resolve_left hh) hw ?_
    intro p e s m args below meth c s₁ B hml hP
    obtain ⟨rfl, hP2⟩ := hP
    have hts := atoms_spec (ws := ex_wd Ts M) B.pre
    rw [hw] at hts
    refine ex_ends hH hA hM hl hr hf ho hin hro hD ⟨B.exec, B.bytes, hml, by rw [← hcl]; exact findClass_of_methodNamed B.named, fun w h => hts w (List.mem_cons_of_mem _ h), B.notSynchronized, fun h => ?_, vx_table (x := M.1) B (hts _ List.mem_cons_self), Nat.le_refl _, Nat.le_refl _⟩ B.returns ⟨rfl, hP2⟩
    rw [(name_of_methodNamed B.named B.method).1]; exact eq_of_beq h
theorem ex_throws {n d mi : Nat} {M : ex_M} {w w' : ex_W} {as : List Value} {x : Nat} {D : va_G} {cA : FieldType → ClassId} {z0 : Nat} {ad : Nat → Nat} (hH : ex_Hyp l Ts Ns mt mp tsl ro sts) (hA : ex_AA l Ts Ns mt mp tsl ro sts n) (hM : mt mi = some M) (hh : M.2.2.2.2.2.2 = []) (hpl : plainName M.1.cls = true)
    (h : ex_me mt (ex_run ro mt n) d mi as w = some (.inr x, w')) (ho : ∀ v ∈ as, ex_okv w.1.1.length v) (hin : ex_rin w) (hro : ro ≤ w.1.1.length) (hD : va_D (fun q => z0 ≤ q) (ex_ws cA ro ad w)) :
    vx_Met l M.1 (ex_wd Ts M) (ex_rm d (w'.1.2.1 - w.1.2.1) (w'.1.2.2 - w.1.2.2)) (ex_Pc D cA z0 ro sts Ns ad w as) (fun _ _ _ _ => False) (ex_Xc D cA z0 ro sts ad w w' x) (w'.1.2.1 - w.1.2.1) (w'.1.2.2 - w.1.2.2) (fun q => z0 ≤ q) := by
  have hmok := hH.2.1 mi M hM
  simp only [ex_mok, Bool.and_eq_true, decide_eq_true_eq] at hmok
  obtain ⟨⟨⟨⟨⟨⟨⟨hmw, -⟩, -⟩, -⟩, hcl⟩, -⟩, hft⟩, hall⟩ := hmok
  obtain ⟨M', hM', hl, row, L1, lo1, st1, w1, hr, hf⟩ := ex_me_of h
  cases hM.symm.trans hM'
  have hw : ex_wd Ts M = .code M.1 M.2.1 M.2.2.1 M.2.2.2.1 :: Ts := by rw [ex_wd, ex_cw, if_pos hh]
  have hpc : ex_pc (M.2.2.2.2.2.1.getD 0 []) = 0 := by
    revert hft
    unfold ex_ft ex_pc
    cases M.2.2.2.2.2.1.getD 0 [] with
    | nil => intro h; cases h
    | cons x r => intro h; exact of_decide_eq_true h
  refine vx_ofW hpl hw ?_
  intro p e s m args below meth c s₁ B hml hnone hP
  obtain ⟨rfl, hP2⟩ := hP
  have hts := atoms_spec (ws := ex_wd Ts M) B.pre
  rw [hw] at hts
  have hts := fun w h => hts w (List.mem_cons_of_mem _ h)
  have hC : ex_Cx p l (ex_rm d (w'.1.2.1 - w.1.2.1) (w'.1.2.2 - w.1.2.2)) s m (as.map (ex_cv ad)).toArray meth c Ts M d := ⟨B.exec, B.bytes, hml, by rw [← hcl]; exact findClass_of_methodNamed B.named, hts, B.notSynchronized, fun h => by rw [(name_of_methodNamed B.named B.method).1]; exact eq_of_beq h, by
      rw [hh, tableOf, List.map_nil]; exact List.eq_nil_iff_forall_not_mem.mpr (fun x hx => hnone x hx), Nat.le_refl _, Nat.le_refl _⟩
  have hfm := ex_fin_mono hf
  have hS0 : va_S (fun q => z0 ≤ q) s.heap s.heap [] := va_S.rf
  rw [lg_entry_eq]
  have key := hA d mi M _ _ [] w _ hM hr (ex_blk hall 0) p e _ s m _ below meth c s.heap [] _ ad D cA z0 w.1.2.1 w.1.2.2 (vx_MQ below (fun _ _ _ _ => False) (ex_Xc D cA z0 ro sts ad w w' x) (as.map (ex_cv ad)).toArray s (w'.1.2.1 - w.1.2.1) (w'.1.2.2 - w.1.2.2) (fun q => z0 ≤ q)) hC hP2.1 ⟨hP2.2, hD, hS0, hin, hro⟩ (ex_ent_LR hl ho) (ex_ent_nod (fun v h => ex_okv_vok (ho v h))) (fun _ h => by cases h) (Nat.le_refl _) (Nat.le_refl _) (Nat.sub_le_sub_right hfm.1 _) (Nat.sub_le_sub_right hfm.2 _)
  rw [hpc, Nat.sub_self, Nat.sub_self] at key
  refine key fun ad1 H1 locs1 ls1 hR1 hag hL1 hst1 hlok => ?_
  have hmm := ex_mono ro mt n _ _ _ _ _ _ _ hr
  simp only [ex_lok, Bool.and_eq_true] at hlok
  obtain ⟨hlok, -⟩ := hlok
  unfold ex_fin at hf
  split at hf
  · split at hf
    · split at hf <;> cases hf
    · cases hf
  · split at hf
    · split at hf <;> cases hf
    · cases hf
  · split at hf
    · split at hf <;> cases hf
    · cases hf
  · next idx hins =>
    split at hf
    · split at hf
      · next hr1 =>
        simp only [Option.some.injEq, Prod.mk.injEq, Sum.inr.injEq] at hf
        obtain ⟨hx, hw'⟩ := hf
        have hw' := hw'.symm
        have ec : w'.1.2.1 = w1.1.2.1 + 1 := by rw [hw']
        have es : w'.1.2.2 = w1.1.2.2 + 6 := by rw [hw']
        obtain ⟨pc, len, ins, r, k⟩ := row
        cases hins
        simp only [ex_rok, Bool.and_eq_true, decide_eq_true_eq] at hlok
        obtain ⟨hdec, hlok⟩ := hlok
        rw [if_pos hr1] at hlok
        simp only [ex_tok, Bool.and_eq_true, decide_eq_true_eq] at hlok
        obtain ⟨rfl, hlok⟩ := hlok
        split at hlok
        · next q hq =>
          simp only [Bool.and_eq_true, decide_eq_true_eq] at hlok
          obtain ⟨⟨⟨⟨⟨⟨⟨⟨t1, t2⟩, t3⟩, t4⟩, t5⟩, t6⟩, t7⟩, t8⟩, -⟩ := hlok
          have hfit : Bundle.fit (ex_en (r.getD 1 0)) = true := by
            rcases (show r.getD 1 0 = 0 ∨ r.getD 1 0 = 1 by omega) with h | h <;> rw [h] <;> decide +kernel
          have hq9 := hH.2.2.2.2.2.2.1 q (List.mem_of_getElem? hq)
          rw [t1, t2] at hq9
          have hx : r.getD 1 0 = x := hx
          have g1 : Cond.classLink M.2.2.2.2.1 idx (ex_en (r.getD 1 0)) ∈ Ts := List.mem_of_getElem? t4
          have g2 : Cond.initialized (ex_en (r.getD 1 0)) ∈ Ts := List.mem_of_getElem? t5
          have hlz : ls1.size = c.maxLocals := hL1.size.trans hC.2.2.1.symm
          have hm1 := hmm.1
          have hm2 := hmm.2
          dsimp only at hm1 hm2
          refine vx_throw0 (own := M.2.2.2.2.1) (cls := ex_en (r.getD 1 0)) (names := ex_es) (ik := idx) (ic := q.2.1) hC.1 hC.2.1 hH.1 hC.2.2.2.1 hfit (by decide +kernel) (hts _ g1) (hts _ g2) (fun z hz => ?_) (fun z hz => ?_) hP2.1.2.2.2.2.2.1 hP2.1.2.2.2.2.2.2.1 hR1.2.2.1 hlz hdec t6 t7 t8 (fun z hz => (hnone z hz).elim) (show 2 + 3 < d + 6 by omega) (show 0 + (13 * (2 + 1) + 42) ≤ 64 * d + 140 by omega) (show w1.1.2.1 - w.1.2.1 + 1 ≤ w'.1.2.1 - w.1.2.1 by omega) (show w1.1.2.2 - w.1.2.2 + 6 ≤ w'.1.2.2 - w.1.2.2 by omega) B.notSynchronized (fun t ht hz1 hz2 => ?_) hR1.2.2.1.2.2 (by show w1.1.2.1 - w.1.2.1 + 1 ≤ w'.1.2.1 - w.1.2.1; omega) (by show w1.1.2.2 - w.1.2.2 + 6 ≤ w'.1.2.2 - w.1.2.2; omega)
          · rcases (hq9 z hz).1 with h | h
            · exact hts _ h
            · exact va_Nw.use (ex_nok_on (hH.2.2.2.2.2.1 z h)) (hP2.1.2.2.2.2.1 z h)
          · have hgd : ∀ y ∈ Ts, vx_ot y = true := fun y hy => by rw [vx_ot, hH.2.2.2.2.1 y hy, Bool.or_true]
            rcases List.mem_cons.mp hz with rfl | hz
            · exact hgd _ g1
            · rcases List.mem_cons.mp hz with rfl | hz
              · exact hgd _ g2
              · exact (hq9 z hz).2
          · have e2 : ex_ws cA ro ad1 w' = ex_ws cA ro ad1 w1 := by rw [hw']; rfl
            refine ⟨by rw [hx], ⟨ad1, ?_, ?_, by rw [e2]; exact hR1.2.1, ?_, ?_⟩, ?_⟩
            · rw [hw']; exact hag
            · rw [e2]; exact hR1.1.kept (fun k q hk => hz2 q.1 (hR1.1 k q hk).lt)
            · rw [hw']; exact hR1.2.2.2.1
            · rw [hw']; exact hR1.2.2.2.2
            · exact ⟨Nat.le_trans hR1.2.2.1.1 hz1, fun q h1 h2 => by rw [hz2 q (Nat.lt_of_lt_of_le h1 hR1.2.2.1.1)]; exact hR1.2.2.1.2.1 q h1 h2⟩
        · cases hlok
      · cases hf
    · cases hf
  · cases hf
end EXC
