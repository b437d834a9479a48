/-! The whole: every run of the small machine is one of the JVM -/
section EXZ
variable {p : Program} {l : Launch} {e : Env} {R : Room} {s : State} {m : MethodId} {args : Array Value} {below : List Frame} {meth : Method} {c : Code} {H : Heap} {locs : List Loc} {cells slots : Nat} {Q : State → Prop} {ls : Array Slot} {rest : List Value} {pc : Nat}
/-- System.arraycopy out of an int array that was there before -/
theorem ex_copyRO {D : va_G} {cl : List vw_C} {tys : List (ClassId × FieldType)} {ws : va_W} {A : Nat → Prop} {a : Nat} {cc : ByteArray} (hexec : p.tables.exec = Jvm.exec) (hb : c.code = cc) (hml : c.maxLocals = ls.size) {own : String} {index : Nat} (hown : s.vm.findClass own = some m.cls) (hlink : (Cond.methodLink own index arraycopyName).before args s = true) (hnat : (Cond.native arraycopyName).before args s = true) (hstat : (Cond.static arraycopyName).before args s = true) (hini : (Cond.initialized "java/lang/System").before args s = true)
    (hK : va_K D cl tys s) (hP : va_P D cl ws H) (hD : va_D A ws) (hS : va_S A s.heap H locs) {b0 n0 : Nat} {f : Nat → Int32} (hX : va_T .int b0 n0 (fun j => .int (f j)) A s s.heap) (q1 t1 : Nat) {c1 : ClassId} {n1 : Nat} {g : Nat → Int32} (ha1 : ws[q1]? = some (a, .inl (c1, n1, .inl g))) (ht1 : tys[t1]? = some (c1, .int))
    {sp dp n : Int32} (h1 : ¬ sp < 0) (h2 : ¬ dp < 0) (h3 : ¬ n < 0) (h4 : sp.toNatClampNeg + n.toNatClampNeg ≤ n0) (h5 : dp.toNatClampNeg + n.toNatClampNeg ≤ n1)
    (hframes : 1 ≤ R.frames) (hlocals : (rest.map fun v => v.category).sum + (nativeFrameWords "java/lang/System" "arraycopy" 5 + 11) ≤ R.locals) (hdg : decode cc pc = .ok (.invokestatic index, 3))
    (kk : ∀ (H1 : Heap) (locs1 : List Loc), va_P D cl (ws.set q1 (a, .inl (c1, n1, .inl (va_cpy f g sp.toNatClampNeg dp.toNatClampNeg n.toNatClampNeg)))) H1 → va_D A (ws.set q1 (a, .inl (c1, n1, .inl (va_cpy f g sp.toNatClampNeg dp.toNatClampNeg n.toNatClampNeg)))) → va_S A s.heap H1 locs1 → W p l e R s m args below meth c H1 locs1 cells slots Q (F0 m (pc + 3) ls rest)) :
    W p l e R s m args below meth c H locs cells slots Q (F0 m pc ls (.int n :: .int dp :: .ref a :: .int sp :: .ref b0 :: rest)) := by
  have toN : ∀ z : Int32, ¬ z < 0 → z.toInt = (z.toNatClampNeg : Int) := fun z hz => by
    have h0 : (0 : Int) ≤ z.toInt := by simpa using Int32.le_iff_toInt_le.mp (Int32.not_lt.mp hz)
    show z.toInt = ((z.toInt.toNat : Nat) : Int)
    omega
  intro T hT X
  obtain ⟨scr, y1, y2, y3, y4, -, y5, y7⟩ := hX
  have old : H[b0]? = some scr := (hS.2.1 b0 (Array.getElem?_eq_some_iff.mp y1).1 y7).trans y1
  have new : H[a]? = some (vp_cell c1 (n1, .inl g)) := hP q1 _ ha1
  obtain ⟨y6, k0, hk0, m0, e0⟩ := y2
  obtain ⟨-, k1, hk1, m1, e1⟩ := (hK.2 t1 _ ht1).1 n1 (fun j => .int (g j))
  obtain ⟨vm', X', go⟩ := X.arraycopy hexec hown hlink hnat hstat hini (src := b0) (dst := a) (cs := scr) (cd := vp_cell c1 (n1, .inl g)) (srcPos := sp) (destPos := dp) (n := n) (by rw [hT]; exact old) (by rw [hT]; exact new)
    y6 (fun _ h => by cases h) y3 (fun h => by cases h) hk0 hk1 e0 e1 (by simp [refKind]) h1 h2 h3 (by rw [toN sp h1, toN n h3]; omega)
    (by rw [toN dp h2, toN n h3]; show ¬ _ > ((arrV c1 n1 (fun j => .int (g j))).slots.size : Int); rw [arrV_size]; omega)
    (fun _ _ i hi => by
      have ev : scr.slots.getD (sp.toNatClampNeg + i) .null = .int (f (sp.toNatClampNeg + i)) := by
        rw [Array.getD_eq_getD_getElem?, y5 _ (by omega)]; rfl
      rw [ev]; exact ⟨rfl, trivial⟩)
    (g := F0 m pc ls (.int n :: .int dp :: .ref a :: .int sp :: .ref b0 :: rest)) rfl (by rw [hml]) (rest := rest) rfl (by rw [hb]; exact hdg) hframes (by show 2 * 0 + _ + _ ≤ _; omega)
  have ecp : copied scr (vp_cell c1 (n1, .inl g)) sp dp n = vp_cell c1 (n1, .inl (va_cpy f g sp.toNatClampNeg dp.toNatClampNeg n.toNatClampNeg)) := va_copiedX (fun z => .int z) scr c1 f g y5 h4
  rw [ecp] at X' go
  have hla : a < H.size := (Array.getElem?_eq_some_iff.mp new).1
  have hh : ((T.setVm vm').setCell a (vp_cell c1 (n1, .inl (va_cpy f g sp.toNatClampNeg dp.toNatClampNeg n.toNatClampNeg)))).heap = H.setIfInBounds a (vp_cell c1 (n1, .inl (va_cpy f g sp.toNatClampNeg dp.toNatClampNeg n.toNatClampNeg))) := by rw [← hT]; rfl
  have other : ∀ q : Nat, q ≠ a → (H.setIfInBounds a (vp_cell c1 (n1, .inl (va_cpy f g sp.toNatClampNeg dp.toNatClampNeg n.toNatClampNeg))))[q]? = H[q]? := fun q hq => by simp [Array.getElem?_setIfInBounds, Ne.symm hq]
  have inA : A a := hD.2 q1 _ ha1
  obtain ⟨t, r1, r2⟩ := kk _ _ (hP.set hD ha1 (show (H.setIfInBounds a _)[a]? = some _ by simp [Array.getElem?_setIfInBounds, hla]) other) (hD.set ha1)
    ⟨by simp; exact hS.1, fun q g1 g2 => (other q (fun eq => g2 (by rw [eq]; exact inA))).trans (hS.2.1 q g1 g2), fun q hq => by
      rcases List.mem_append.mp hq with hq | hq
      · exact hS.2.2 q hq
      · obtain ⟨z, -, rfl⟩ := List.mem_map.mp hq
        exact inA⟩ _ hh X'
  exact ⟨t, go t r1, r2⟩
end EXZ
section EXI
variable {l : Launch} {Ts Ns : List Cond} {mt : Nat → Option ex_M} {mp : Nat → List Nat} {tsl : List (String × Nat × Nat)} {ro : Nat} {sts : List ex_St}
theorem ex_ret_eq (self : ex_S) (d : Nat) (cd : List (List ex_R)) (L : List ex_R) (lo : ex_Lo) (rest : List Value) (v : Option Value) (w : ex_W) : ex_ret self d cd L lo rest (some (.inl v, w)) = self d cd L lo (v.toList ++ rest) w := by cases v <;> rfl
theorem ex_ft_pc {pc : Nat} {L : List ex_R} (h : ex_ft pc L = true) : ex_pc L = pc := by
  unfold ex_ft at h
  unfold ex_pc
  split at h
  · exact of_decide_eq_true h
  · cases h
theorem ex_ftl_pc {n pc d : Nat} {cd : List (List ex_R)} {L : List ex_R} {lo : ex_Lo} {st : List Value} {w : ex_W} {E : ex_E} (h : ex_ftl pc L = true) (hr : ex_run ro mt n d cd L lo st w = some E) : ex_pc L = pc := by
  unfold ex_ftl at h
  unfold ex_pc
  split at h
  · exact of_decide_eq_true h
  · cases n <;> cases hr
theorem ex_jmp_pc {cd : List (List ex_R)} {pc t : Nat} {off : Int} (h : ex_jmp cd pc off t = true) : (pc : Int) + off = (ex_pc (cd.getD t []) : Int) := by
  unfold ex_jmp at h
  unfold ex_pc
  split at h
  · next x r hx => rw [hx]; exact of_decide_eq_true h
  · cases h
theorem ex_LR.same {ad ad' : Nat → Nat} {z z' nL : Nat} {lo : ex_Lo} {ls : Array Slot} (h : ex_LR ad z nL lo ls) (hz : z ≤ z') (had : ∀ i, i < z → ad' i = ad i) : ex_LR ad' z' nL lo ls :=
  ⟨h.1, h.2.1, fun i v hv => ⟨by rw [ex_cv_same (h.2.2 i v hv).2 had]; exact (h.2.2 i v hv).1, (h.2.2 i v hv).2.mono hz⟩⟩
theorem ex_isw_of {w : ex_W} {x : Nat} (h : ex_isw ro w x = true) : x < ro ∧ w.1.1[x]? = some (.inl 100) := by
  rw [ex_isw, Bool.and_eq_true] at h
  refine ⟨Nat.not_le.mp (of_decide_eq_true h.1), ?_⟩
  have h2 := h.2
  split at h2
  · next hx => exact hx
  · cases h2
/-- behind a call that returned -/
theorem ex_after {n d mi : Nat} {M : ex_M} {L : List ex_R} {lo : ex_Lo} {rest : List Value} {v : Option Value} {w w2 : ex_W} {E : ex_E} (hH : ex_Hyp l Ts Ns mt mp tsl ro sts) (hA : ex_AA l Ts Ns mt mp tsl ro sts n) (hM : mt mi = some M) (hrun : ex_run ro mt n d M.2.2.2.2.2.1 L lo (v.toList ++ rest) w2 = some E) (hlok : ex_lok Ts Ns mt mp tsl ro sts M L = true) (hle : ex_le w w2)
    {p : Program} {e : Env} {R : Room} {s : State} {m : MethodId} {args : Array Value} {below : List Frame} {meth : Method} {c : Code} {H : Heap} {locs : List Loc} {ls : Array Slot} {ad : Nat → Nat} {D : va_G} {cA : FieldType → ClassId} {z0 c0 s0 pc : Nat} {Q : State → Prop} {st0 : List Value}
    (hpc : ex_pc L = pc + 3) (hC : ex_Cx p l R s m args meth c Ts M d) (hF : ex_Fix D cA z0 ro sts Ns ad w s) (hR : ex_Rel D cA z0 ro ad w s H locs) (hL : ex_LR ad w.1.1.length M.2.2.1 lo ls) (hn : ex_nod lo) (ho : ∀ v ∈ rest, ex_okv w.1.1.length v) (hc0 : c0 ≤ w.1.2.1) (hs0 : s0 ≤ w.1.2.2) (hRc : E.2.2.2.1.2.1 - c0 ≤ R.cells) (hRs : E.2.2.2.1.2.2 - s0 ≤ R.slots)
    (hvr : va_Run p l e R s m args below meth c H locs (w.1.2.1 - c0) (w.1.2.2 - s0) (w2.1.2.1 - w.1.2.1) (w2.1.2.2 - w.1.2.2) (F0 m pc ls st0) (rest.map (ex_cv ad)) (ex_Qc D cA z0 ro sts ad w w2 v #[]) (fun q => z0 ≤ q))
    (kk : ∀ (ad1 : Nat → Nat) (H1 : Heap) (locs1 : List Loc) (ls1 : Array Slot), ex_Rel D cA z0 ro ad1 E.2.2.2 s H1 locs1 → ex_agr ro sts ad ad1 w E.2.2.2 → ex_LR ad1 E.2.2.2.1.1.length M.2.2.1 E.2.1 ls1 → (∀ v ∈ E.2.2.1, ex_okv E.2.2.2.1.1.length v) → ex_lok Ts Ns mt mp tsl ro sts M E.1 = true →
      W p l e R s m args below meth c H1 locs1 (E.2.2.2.1.2.1 - c0) (E.2.2.2.1.2.2 - s0) Q (F0 m (ex_pc E.1) ls1 (E.2.2.1.map (ex_cv ad1)))) :
    W p l e R s m args below meth c H locs (w.1.2.1 - c0) (w.1.2.2 - s0) Q (F0 m pc ls st0) := by
  refine ex_go hvr fun v9 st₀ t L9 h0 hal hq hL9 => ?_
  obtain ⟨⟨ad', hv, hvo, hag, hP, hD, hin, hro⟩, hFr⟩ := hq
  cases hv
  obtain ⟨g1, g2, g3⟩ := vx_keep (T' := t) h0 rfl hR.2.2.1 (fun _ _ h => h) (fun _ h => h) hL9 hFr
  have hle1 := hle.1
  have hle2 := hle.2
  have e1 : w.1.2.1 - c0 + (w2.1.2.1 - w.1.2.1) = w2.1.2.1 - c0 := by omega
  have e2 : w.1.2.2 - s0 + (w2.1.2.2 - w.1.2.2) = w2.1.2.2 - s0 := by omega
  have hR' : ex_Rel D cA z0 ro ad' w2 s t.heap (locs ++ L9) := ⟨hP, hD, g3, hin, hro⟩
  have had : ∀ i, i < w.1.1.length → ad' i = ad i := fun i hi => (hag.1 i hi).1
  have ho' : ∀ x ∈ v.toList ++ rest, ex_okv w2.1.1.length x := fun x hx => by
    rcases List.mem_append.mp hx with hx | hx
    · exact hvo x (Option.mem_toList.mp hx)
    · exact (ho x hx).mono hag.2.2
  have key := hA d mi M L lo (v.toList ++ rest) w2 E hM hrun hlok p e R s m args below meth c t.heap (locs ++ L9) ls ad' D cA z0 c0 s0 Q hC (hF.agr hag hR.2.2.2.1 hR.2.2.2.2 hH.2.2.2.1) hR' (hL.same hag.2.2 had) hn ho' (by omega) (by omega) hRc hRs (fun ad1 H1 locs1 ls1 k1 k2 k3 k4 k5 => kk ad1 H1 locs1 ls1 k1 (hag.tr k2) k3 k4 k5)
  have e3 : (v.toList ++ rest).map (ex_cv ad') = (v.map (ex_cv ad')).toList ++ rest.map (ex_cv ad) := by
    rw [List.map_append, ex_map_same ho had]
    cases v <;> rfl
  rw [hpc, e3] at key
  rw [e1, e2]
  exact key
/-- the handlers -/
theorem ex_hands {bytes : ByteArray} {nL : Nat} {own : String} {pc : Nat} {cd : List (List ex_R)} {x : Nat} {w : ex_W} {E : ex_E} : ∀ (rs : List Nat) (hh : List (Nat × Nat × Nat × Nat)) (seen : List Nat), ex_cat cd x w rs = some E → ex_hd bytes nL own pc cd rs hh seen = true →
    ∃ (pre : List (Nat × Nat × Nat × Nat)) (q : Nat × Nat × Nat × Nat) (suf : List (Nat × Nat × Nat × Nat)) (ra rc rr : ex_R), hh = pre ++ q :: suf ∧ E = ([rr], [], [.int rc.2.2.2.2], w) ∧ (∀ y ∈ seen, x = 0 ∧ y = 1) ∧ (∀ z ∈ pre, z.2.2.2 ≠ 0 ∧ x = 0 ∧ own = "PileTricksLaw" ∧ z.2.2.2 = ex_ct 1) ∧ q.1 ≤ pc ∧ pc < q.2.1 ∧ q.2.2.2 ≠ 0 ∧ (own = "PileTricksLaw" ∧ x < 2 ∧ q.2.2.2 = ex_ct x) ∧ ra.1 = q.2.2.1 ∧ decode bytes ra.1 = .ok (ra.2.2.1, ra.2.1) ∧ decode bytes rc.1 = .ok (rc.2.2.1, rc.2.1) ∧ decode bytes rr.1 = .ok (.ireturn, 1) ∧ rr.2.2.1 = .ireturn ∧ rr.2.1 = 1 ∧ rc.1 = ra.1 + ra.2.1 ∧ rr.1 = rc.1 + rc.2.1 ∧ ex_kok ra.2.2.1 ra.2.2.2.2 ra.2.1 = true ∧ ex_kok rc.2.2.1 rc.2.2.2.2 rc.2.1 = true ∧ ((∃ i, ra.2.2.1 = .astore_n i ∧ i.val < nL) ∨ (∃ i, ra.2.2.1 = .astore i ∧ i < nL)) ∧ (∃ i, rc.2.2.1 = .iconst i)
  | y :: b :: rs, q :: hh, seen, h, hk => by
    simp only [ex_hd, Bool.and_eq_true] at hk
    obtain ⟨hk1, hk2⟩ := hk
    split at hk1
    · next ra rc rr hb =>
      simp only [Bool.and_eq_true, decide_eq_true_eq] at hk1
      obtain ⟨⟨⟨⟨⟨⟨⟨⟨⟨⟨⟨⟨⟨⟨⟨⟨k1, k2⟩, k3⟩, k4⟩, k6⟩, k7⟩, k8⟩, k9⟩, k10⟩, k11⟩, k12⟩, k13⟩, k14⟩, k15⟩, k16⟩, k17⟩, k18⟩ := hk1
      by_cases hy : y = x
      · subst hy
        rw [ex_cat, if_pos rfl, hb] at h
        cases h
        refine ⟨[], q, hh, ra, rc, rr, rfl, rfl, (fun z hz => of_decide_eq_true (List.all_eq_true.mp k18 z hz)), (fun _ h => by cases h), k1, k2, k3, k4, k6, k7, k8, k9, k10, k11, k12, k13, k14, k15, ?_, ?_⟩
        · split at k16
          · next i hi => exact Or.inl ⟨i, hi, of_decide_eq_true k16⟩
          · next i hi => exact Or.inr ⟨i, hi, of_decide_eq_true k16⟩
          · cases k16
        · split at k17
          · next i hi => exact ⟨i, hi⟩
          · cases k17
      · rw [ex_cat, if_neg hy] at h
        obtain ⟨pre, q', suf, ra', rc', rr', e1, e2, e3, e4, e5⟩ := ex_hands rs hh (y :: seen) h hk2
        refine ⟨q :: pre, q', suf, ra', rc', rr', by rw [e1]; rfl, e2, fun z hz => e3 z (List.mem_cons_of_mem _ hz), fun z hz => ?_, e5⟩
        rcases List.mem_cons.mp hz with rfl | hz
        · obtain ⟨f1, f2⟩ := e3 y List.mem_cons_self
          exact ⟨k3, f1, k4.1, by rw [← f2]; exact k4.2.2⟩
        · exact e4 z hz
    · cases hk1
  | [], _, _, h, _ => by cases h
  | [_], _, _, h, _ => by cases h
  | _ :: _ :: _, [], _, _, hk => by simp [ex_hd] at hk
theorem ex_goX {p : Program} {e : Env} {R : Room} {s : State} {m : MethodId} {args : Array Value} {below : List Frame} {meth : Method} {c : Code} {H : Heap} {locs : List Loc} {ls : Array Slot} {Q : State → Prop} {cells slots mc ms pc : Nat} {st0 rest : List Value} {XC : String → State → State → Prop} {free : Addr → Prop} (hr : vx_Run p l e R s m args below meth c H locs cells slots mc ms (F0 m pc ls st0) rest (fun _ _ _ => False) XC free)
    (kk : ∀ (q9 : Addr) (st₀ t : State) (L9 : List Loc) (E9 : String) (ce : Cell), st₀.heap = H → XC E9 st₀ t → (∀ z ∈ L9, free z.base) → t.heap[q9]? = some ce → ce.vm = .none → s.vm.findClass E9 = some ce.cls → vx_W p l e R s m args below meth c t.heap (locs ++ L9) (cells + mc) (slots + ms) Q (F0 m pc ls rest) q9) :
    W p l e R s m args below meth c H locs cells slots Q (F0 m pc ls st0) := by
  intro T hT X
  rcases hr T hT X with ⟨v, st₀, t, T', L, h0, X', hL, e1, e2, hq, st⟩ | ⟨q, st₀, t, T', L, E, ce, h0, X', hL, e1, e2, hx, hce, hcv, hcl, st⟩
  · exact hq.elim
  · obtain ⟨t2, a1, b1⟩ := kk q st₀ t L E ce h0 hx hL hce hcv hcl T' e1 X'
    exact ⟨t2, st.trans a1, b1⟩
set_option maxHeartbeats 8000000 in
/-- a call that throws, in a method that catches it -/
theorem ex_catch {n d mi mi' pc idx np ci k0 x : Nat} {rs : List Nat} {M M' : ex_M} {lo : ex_Lo} {st as rest : List Value} {w w2 : ex_W} {E : ex_E} {ins : Instr} {k : Int32} (hH : ex_Hyp l Ts Ns mt mp tsl ro sts) (hA : ex_AA l Ts Ns mt mp tsl ro sts n) (hM : mt mi = some M) (hM' : mt mi' = some M') (h : ex_cat M.2.2.2.2.2.1 x w2 rs = some E)
    {p : Program} {e : Env} {R : Room} {s : State} {m : MethodId} {args : Array Value} {below : List Frame} {meth : Method} {c : Code} {H : Heap} {locs : List Loc} {ls : Array Slot} {ad : Nat → Nat} {D : va_G} {cA : FieldType → ClassId} {z0 c0 s0 : Nat} {Q : State → Prop}
    (hi : ins = .invokevirtual idx ∨ ins = .invokestatic idx ∨ ins = .invokespecial idx) (hdec : decode M.2.1 pc = .ok (ins, 3)) (hk9 : k0 = 9) (hk : ex_cok Ts Ns mt mp M pc ins (k0 :: mi' :: np :: ci :: rs) k = true) (hC : ex_Cx p l R s m args meth c Ts M (d + 1)) (hF : ex_Fix D cA z0 ro sts Ns ad w s) (hR : ex_Rel D cA z0 ro ad w s H locs) (hL : ex_LR ad w.1.1.length M.2.2.1 lo ls)
    (hme : ex_me mt (ex_run ro mt n) d mi' as w = some (.inr x, w2)) (hoA : ∀ v ∈ as, ex_okv w.1.1.length v) (has : as.length = np) (hsum : (rest.map fun v => v.category).sum ≤ 8) (hrcv : k0 = 2 ∨ k0 = 3 ∨ k0 = 8 ∨ ex_rcv ro w ci as = true) (hc0 : c0 ≤ w.1.2.1) (hs0 : s0 ≤ w.1.2.2) (hRc : E.2.2.2.1.2.1 - c0 ≤ R.cells) (hRs : E.2.2.2.1.2.2 - s0 ≤ R.slots)
    (hsm : st.map (ex_cv ad) = as.reverse.map (ex_cv ad) ++ rest.map (ex_cv ad))
    (kk : ∀ (ad1 : Nat → Nat) (H1 : Heap) (locs1 : List Loc) (ls1 : Array Slot), ex_Rel D cA z0 ro ad1 E.2.2.2 s H1 locs1 → ex_agr ro sts ad ad1 w E.2.2.2 → ex_LR ad1 E.2.2.2.1.1.length M.2.2.1 E.2.1 ls1 → (∀ v ∈ E.2.2.1, ex_okv E.2.2.2.1.1.length v) → ex_lok Ts Ns mt mp tsl ro sts M E.1 = true →
      W p l e R s m args below meth c H1 locs1 (E.2.2.2.1.2.1 - c0) (E.2.2.2.1.2.2 - s0) Q (F0 m (ex_pc E.1) ls1 (E.2.2.1.map (ex_cv ad1)))) :
    W p l e R s m args below meth c H locs (w.1.2.1 - c0) (w.1.2.2 - s0) Q (F0 m pc ls (st.map (ex_cv ad))) := by
  subst hk9
  have hts := hC.2.2.2.2.1
  have hrv : ex_rcv ro w ci as = true := by
    rcases hrcv with h | h | h | h
    · omega
    · omega
    · omega
    · exact h
  obtain ⟨a, As, rfl, hsh, hca⟩ := ex_rcv_of hrv
  rcases hi with rfl | rfl | rfl
  · have hmok := hH.2.1 _ M' hM'
    simp only [ex_mok, Bool.and_eq_true, decide_eq_true_eq] at hmok
    obtain ⟨⟨⟨⟨⟨⟨⟨hmw, hpl⟩, hn1⟩, hn2⟩, hcl⟩, hnL⟩, -⟩, -⟩ := hmok
    have hq := ex_wds hH.2.2.2.2.1 hts hmw (hH.2.2.2.2.2.2.2.1 _ M' hM')
    obtain ⟨u1, u2, u3⟩ := ex_mw_st hmw
    have hk0 : mt ((9 :: mi' :: np :: ci :: rs).getD 1 0) = some M' := hM'
    simp only [ex_cok, hk0, Bool.and_eq_true, decide_eq_true_eq] at hk
    obtain ⟨⟨⟨hk1, hk2⟩, hk3⟩, hk4⟩ := hk
    obtain ⟨g1, g2, g3, g4⟩ := ex_cl_of hk1
    obtain ⟨q1, q2, q3⟩ := hq (by have g1 : (mp mi').getD 2 0 = 1 := g1; rw [g1]; decide)
    obtain ⟨i1, i2⟩ := u2 g1
    rw [if_pos (by simp), Bool.and_eq_true, decide_eq_true_eq] at hk4
    obtain ⟨hkp, hk4⟩ := hk4
    have hcode : Cond.code M'.1 M'.2.1 M'.2.2.1 M'.2.2.2.1 ∈ Ts := by rw [ex_cw, if_pos hk3] at q3; exact q3
    have hcw : Cond.code M'.1 M'.2.1 M'.2.2.1 M'.2.2.2.1 ∈ ex_wd Ts M' := by rw [ex_wd, ex_cw, if_pos hk3]; exact List.mem_cons_self
    have hci : ci < 10 ∨ 100 ≤ ci ∧ ci < 200 := hk2.2
    have hcell := ex_recv hF hR hsh hca (fun h => ⟨vwCl[ci]'(show ci < 10 by omega), List.getElem?_eq_getElem _⟩) (by omega)
    have hcn : M'.1.cls = ex_cn1 ci := hk2.1
    rw [← hcn] at hcell
    unfold ex_Lk at g4
    rw [if_neg (by simp)] at g4
    have hX := ex_throws (D := D) (cA := cA) (z0 := z0) (ad := ad) hH hA hM' hk3 hkp hme hoA hR.2.2.2.1 hR.2.2.2.2 hR.2.1
    have hpre : PreV s H M'.1.cls (ad a) (ex_Pc D cA z0 ro sts Ns ad w (.ref a :: As)) (As.map (ex_cv ad)) := ⟨ex_blind hH.2.2.2.2.2.1, hcell, (ex_PreS hH hF hR).2⟩
    have hnA : ∀ sig, parseMethodDescriptor M'.1.desc = some sig → (As.map (ex_cv ad)).length = sig.parameters.length := fun sig hs => by
      have h9 : np = sig.parameters.length + 1 := g3 sig hs
      rw [List.length_map]
      rw [List.length_cons] at has
      omega
    have hstk : st.map (ex_cv ad) = (As.map (ex_cv ad)).reverse ++ .ref (ad a) :: rest.map (ex_cv ad) := by
      rw [hsm, List.reverse_cons, List.map_append, List.map_reverse, List.append_assoc]; rfl
    obtain ⟨pre, q, suf, ra, rc, rr, e1, e2, -, e4, p1, p2, p3, p45, p6, p7, p8, p9, p10, p11, p12, p13, p14, p15, p16, p17⟩ := ex_hands _ _ _ h hk4
    have hle : ex_le w w2 := by
      obtain ⟨M9, -, -, row, L9, lo9, st9, w9, x1, x2⟩ := ex_me_of hme
      exact (ex_mono ro mt n _ _ _ _ _ _ _ x1).tr (ex_fin_mono x2)
    have hl1 := hle.1
    have hl2 := hle.2
    subst e2
    dsimp only at hRc hRs kk
    obtain ⟨pl1, pl2, pl3⟩ := p45
    obtain ⟨p4, p5⟩ := hH.2.2.2.2.2.2.2.2.2.2 x pl2
    rw [← pl3, ← pl1] at p4
    have hS : CallFix p m c M.2.1 M.2.2.1 s args Ts M.2.2.2.2.1 := ⟨hC.1, hC.2.1, hC.2.2.1, hC.2.2.2.1, hts⟩
    have hfr : (ex_rm d (w2.1.2.1 - w.1.2.1) (w2.1.2.2 - w.1.2.2)).frames + 1 ≤ R.frames := by have := hC.2.2.2.2.2.2.2.2.1; show d + 6 + 1 ≤ _; omega
    have hlo : 8 + (M'.2.2.1 + 11) + (ex_rm d (w2.1.2.1 - w.1.2.1) (w2.1.2.2 - w.1.2.2)).locals ≤ R.locals := by have := hC.2.2.2.2.2.2.2.2.2; show 8 + (M'.2.2.1 + 11) + (64 * d + 140) ≤ _; omega
    have hroom : ∀ (pc : Nat) (st : List Value), 2 * (F0 m pc ls st).monitorRoom + ((rest.map (ex_cv ad)).map fun v => v.category).sum ≤ 8 := fun pc st => lv_room (by rw [ex_catsum]; exact hsum)
    rw [hstk]
    refine ex_goX (vx_runV (n := (As.map (ex_cv ad)).length) hS hX ⟨⟨rfl, rfl, hfr, hlo, q1, hcw, hts _ hcode, q2, ⟨hn1, hn2⟩, hnA, hts _ g4⟩, hts _ i1, hts _ i2⟩ hpre rfl rfl hL.size rfl (hroom _ _) hdec ⟨by omega, by omega⟩) ?_
    intro q9 st₀ t L9 E9 ce h0 hx hL9 hce hcv hcl9
    obtain ⟨rfl, ⟨ad', hag, hP, hD, hin, hro⟩, hFr⟩ := hx
    obtain ⟨f1, f2, f3⟩ := vx_keep (T' := t) h0 rfl hR.2.2.1 (fun _ _ h => h) (fun _ h => h) hL9 hFr
    have hR' : ex_Rel D cA z0 ro ad' w2 s t.heap (locs ++ L9) := ⟨hP, hD, f3, hin, hro⟩
    have hrr : ex_lok Ts Ns mt mp tsl ro sts M [rr] = true := by
      obtain ⟨rp, rl, ri, rk⟩ := rr
      dsimp only at p9 p10 p11
      subst p10
      subst p11
      simp only [ex_lok, ex_rok, Bool.and_eq_true, decide_eq_true_eq]
      exact ⟨⟨p9, trivial⟩, trivial⟩
    have key : ∀ ls1 : Array Slot, lv_has ls1 M.2.2.1 [] → W p l e R s m args below meth c t.heap (locs ++ L9) (w2.1.2.1 - c0) (w2.1.2.2 - s0) Q (F0 m rr.1 ls1 [.int rc.2.2.2.2]) := fun ls1 hl => kk ad' t.heap (locs ++ L9) ls1 hR' hag ⟨Nat.zero_le _, hl, fun i v hv => by simp at hv⟩ (fun v hv => by
      rcases List.mem_cons.mp hv with rfl | hv
      · exact trivial
      · cases hv) hrr
    have e9 : w.1.2.1 - c0 + (w2.1.2.1 - w.1.2.1) = w2.1.2.1 - c0 := by omega
    have e10 : w.1.2.2 - s0 + (w2.1.2.2 - w.1.2.2) = w2.1.2.2 - s0 := by omega
    rw [e9, e10]
    refine vx_catch (own := M.2.2.2.2.1) (name := ex_en x) (E := ex_en x) hC.2.2.2.1 (tableOf pre) ⟨q.1, q.2.1, q.2.2.1, q.2.2.2⟩ (tableOf suf) (by rw [hC.2.2.2.2.2.2.2.1, e1]; simp [tableOf]) (fun z hz => ?_) (by simp [covers, p1, p2]) p3 (hts _ p4) (va_Nw.use rfl (hF.2.2.2.2.1 _ p5)) hce hcv hcl9 ?_
    · obtain ⟨z', hz', rfl⟩ := List.mem_map.mp hz
      obtain ⟨y1, y2, y3, y4⟩ := e4 z' hz'
      exact Or.inr ⟨y1, ex_en 1, by
        have h9 := (hH.2.2.2.2.2.2.2.2.2.2 1 (by omega)).1
        rw [← y4, ← y3] at h9
        exact hts _ h9, by rw [y2]; exact hF.2.2.2.2.2.2.2.1⟩
    · show W p l e R s m args below meth c t.heap (locs ++ L9) (w2.1.2.1 - c0) (w2.1.2.2 - s0) Q (F0 m q.2.2.1 ls [.ref q9])
      obtain ⟨ic, hic⟩ := p17
      rw [hic] at p8 p15
      simp only [ex_kok, Bool.and_eq_true, decide_eq_true_eq] at p15
      have fin : ∀ ls1 : Array Slot, lv_has ls1 M.2.2.1 [] → W p l e R s m args below meth c t.heap (locs ++ L9) (w2.1.2.1 - c0) (w2.1.2.2 - s0) Q (F0 m rc.1 ls1 []) := fun ls1 hl => by
        have := key ls1 hl
        rw [p13, p15.2] at this
        rw [p15.2] at p8
        exact lv_iconst hC.1 hC.2.1 p8 p15.1 this
      rcases p16 with ⟨ia, hia, hib⟩ | ⟨ia, hia, hib⟩
      · rw [hia] at p7 p14
        simp only [ex_kok, decide_eq_true_eq] at p14
        rw [p14, p6] at p7
        rw [p14, p6] at p12
        rw [p12] at fin
        exact lv_astore_n hC.1 hC.2.1 p7 rfl hL.2.1 hib rfl (fun ls' hl' => fin ls' (lv_sub hl' [] rfl))
      · rw [hia] at p7 p14
        simp only [ex_kok, decide_eq_true_eq] at p14
        rw [p14, p6] at p7
        rw [p14, p6] at p12
        rw [p12] at fin
        exact lv_astore hC.1 hC.2.1 p7 hL.2.1 hib rfl (fun ls' hl' => fin ls' (lv_sub hl' [] rfl))
  · exfalso
    have hk0 : mt ((9 :: mi' :: np :: ci :: rs).getD 1 0) = some M' := hM'
    rw [ex_cok, if_neg (by simp)] at hk
    simp only [hk0, Bool.and_eq_true] at hk
    have := (ex_cl_of hk.1).2.1
    simp at this
  · exfalso
    have hk0 : mt ((9 :: mi' :: np :: ci :: rs).getD 1 0) = some M' := hM'
    rw [ex_cok, if_neg (by simp)] at hk
    simp only [hk0, Bool.and_eq_true] at hk
    have := (ex_cl_of hk.1.1).2.1
    simp at this
set_option maxHeartbeats 8000000 in
/-- a call of any kind -/
theorem ex_inv_ok {n d mi pc idx : Nat} {M : ex_M} {L : List ex_R} {lo : ex_Lo} {st : List Value} {w : ex_W} {E : ex_E} {ins : Instr} {r : List Nat} {k : Int32} (hH : ex_Hyp l Ts Ns mt mp tsl ro sts) (hA : ex_AA l Ts Ns mt mp tsl ro sts n) (hM : mt mi = some M) (h : ex_inv ro mt (ex_run ro mt n) d M.2.2.2.2.2.1 r L lo st w = some E) (hlok : ex_lok Ts Ns mt mp tsl ro sts M L = true)
    {p : Program} {e : Env} {R : Room} {s : State} {m : MethodId} {args : Array Value} {below : List Frame} {meth : Method} {c : Code} {H : Heap} {locs : List Loc} {ls : Array Slot} {ad : Nat → Nat} {D : va_G} {cA : FieldType → ClassId} {z0 c0 s0 : Nat} {Q : State → Prop}
    (hi : ins = .invokevirtual idx ∨ ins = .invokestatic idx ∨ ins = .invokespecial idx) (hdec : decode M.2.1 pc = .ok (ins, 3)) (hpc : ex_pc L = pc + 3) (hk : ex_cok Ts Ns mt mp M pc ins r k = true) (hC : ex_Cx p l R s m args meth c Ts M d) (hF : ex_Fix D cA z0 ro sts Ns ad w s) (hR : ex_Rel D cA z0 ro ad w s H locs) (hL : ex_LR ad w.1.1.length M.2.2.1 lo ls) (hn : ex_nod lo) (ho : ∀ v ∈ st, ex_okv w.1.1.length v) (hc0 : c0 ≤ w.1.2.1) (hs0 : s0 ≤ w.1.2.2) (hRc : E.2.2.2.1.2.1 - c0 ≤ R.cells) (hRs : E.2.2.2.1.2.2 - s0 ≤ R.slots)
    (kk : ∀ (ad1 : Nat → Nat) (H1 : Heap) (locs1 : List Loc) (ls1 : Array Slot), ex_Rel D cA z0 ro ad1 E.2.2.2 s H1 locs1 → ex_agr ro sts ad ad1 w E.2.2.2 → ex_LR ad1 E.2.2.2.1.1.length M.2.2.1 E.2.1 ls1 → (∀ v ∈ E.2.2.1, ex_okv E.2.2.2.1.1.length v) → ex_lok Ts Ns mt mp tsl ro sts M E.1 = true →
      W p l e R s m args below meth c H1 locs1 (E.2.2.2.1.2.1 - c0) (E.2.2.2.1.2.2 - s0) Q (F0 m (ex_pc E.1) ls1 (E.2.2.1.map (ex_cv ad1)))) :
    W p l e R s m args below meth c H locs (w.1.2.1 - c0) (w.1.2.2 - s0) Q (F0 m pc ls (st.map (ex_cv ad))) := by
  have hts := hC.2.2.2.2.1
  unfold ex_inv at h
  split at h
  · next r' =>
    split at h
    · next a st1 =>
      split at h
      · next hsum =>
        rcases hi with rfl | rfl | rfl
        · exfalso
          simp only [ex_cok] at hk
          split at hk
          · simp only [Bool.and_eq_true] at hk
            have := (ex_cl_of hk.1.1.1).2.1
            simp at this
          · cases hk
        · exfalso
          rw [ex_cok, if_neg (by simp)] at hk
          split at hk
          · simp only [Bool.and_eq_true] at hk
            have := (ex_cl_of hk.1).2.1
            simp at this
          · cases hk
        · rw [ex_cok, if_pos (by simp)] at hk
          have hk := of_decide_eq_true hk
          have hob := hH.2.2.2.2.2.2.2.2.1
          refine W.objInit hC.1 hC.2.1 hC.2.2.2.1 (hts _ (List.mem_of_getElem? hk)) (hts _ hob.1) (hts _ hob.2) rfl (hL.size.trans hC.2.2.1.symm) rfl hdec (by have := hC.2.2.2.2.2.2.2.2.1; omega) ?_ ?_
          · have h9 : 2 * (F0 m pc ls ((Value.ref a :: st1).map (ex_cv ad))).monitorRoom + ((st1.map (ex_cv ad)).map fun v => v.category).sum ≤ 8 := lv_room (by rw [ex_catsum]; exact hsum)
            have := hC.2.2.2.2.2.2.2.2.2
            omega
          · have key := hA d mi M L lo st1 w E hM h hlok p e R s m args below meth c H locs ls ad D cA z0 c0 s0 Q hC hF hR hL hn (ex_tl ho) hc0 hs0 hRc hRs kk
            rw [hpc] at key
            exact key
      · cases h
    · cases h
  · next r' =>
    split at h
    · next n' dp b sp a st1 =>
      split at h
      · next n0 hsa =>
        split at h
        · next n1 hsb =>
          split at h
          · next hcd =>
            obtain ⟨⟨hrb, hsum⟩, h1, h2, h3, h4, h5⟩ := hcd
            rcases hi with rfl | rfl | rfl
            · exfalso
              simp only [ex_cok] at hk
              split at hk
              · simp only [Bool.and_eq_true] at hk
                have := (ex_cl_of hk.1.1.1).2.1
                simp at this
              · cases hk
            · rw [ex_cok, if_pos (by simp)] at hk
              have k1 := of_decide_eq_true hk
              obtain ⟨k2, k3, k4⟩ := hH.2.2.2.2.2.2.2.2.2.1
              have fin : ∀ (H1 : Heap) (locs1 : List Loc), va_P D vwCl ((ex_ws cA ro ad w).set (b - ro) (ad b, .inl (cA .int, n1, .inl (va_cpy (w.2.1 a) (w.2.1 b) sp.toNatClampNeg dp.toNatClampNeg n'.toNatClampNeg)))) H1 → va_D (fun q => z0 ≤ q) ((ex_ws cA ro ad w).set (b - ro) (ad b, .inl (cA .int, n1, .inl (va_cpy (w.2.1 a) (w.2.1 b) sp.toNatClampNeg dp.toNatClampNeg n'.toNatClampNeg)))) → va_S (fun q => z0 ≤ q) s.heap H1 locs1 → W p l e R s m args below meth c H1 locs1 (w.1.2.1 - c0) (w.1.2.2 - s0) Q (F0 m (pc + 3) ls (st1.map (ex_cv ad))) := by
                intro H1 locs1 hP hD hS
                obtain ⟨w', hw⟩ : ∃ w', w' = (w.1, ex_set w.2.1 b (va_cpy (w.2.1 a) (w.2.1 b) sp.toNatClampNeg dp.toNatClampNeg n'.toNatClampNeg), w.2.2.1, w.2.2.2) := ⟨_, rfl⟩
                have ec : ex_cell cA ad w' b (.inr (.int, n1)) = .inl (cA .int, n1, .inl (va_cpy (w.2.1 a) (w.2.1 b) sp.toNatClampNeg dp.toNatClampNeg n'.toNatClampNeg)) := by
                  rw [hw]; show Sum.inl (cA .int, n1, Sum.inl (ex_set _ b _ b)) = _; rw [ex_set_eq]
                rw [← ec] at hP hD
                obtain ⟨g1, g2⟩ := ex_h_upd (sts := sts) hR hsb hrb (by rw [hw]) (fun i hi => by rw [hw]; exact ⟨ex_set_ne hi, rfl, rfl⟩) (fun k r hk => hR.2.2.2.1 b k r (by rw [hw] at hk; exact hk)) hP hD hS
                rw [← hw] at h
                have ew : w'.1 = w.1 := by rw [hw]
                have key := hA d mi M L lo st1 w' E hM h hlok p e R s m args below meth c H1 locs1 ls ad D cA z0 c0 s0 Q hC (hF.agr g2 hR.2.2.2.1 hR.2.2.2.2 hH.2.2.2.1) g1 (hL.same g2.2.2 (fun _ _ => rfl)) hn (fun v hv => (ex_tl (ex_tl (ex_tl (ex_tl (ex_tl ho)))) v hv).mono g2.2.2) (by rw [ew]; exact hc0) (by rw [ew]; exact hs0) hRc hRs (fun ad1 H1 locs1 ls1 k1 k2 k3 k4 k5 => kk ad1 H1 locs1 ls1 k1 (g2.tr k2) k3 k4 k5)
                rw [hpc, ew] at key
                exact key
              have hfr : 1 ≤ R.frames := by have := hC.2.2.2.2.2.2.2.2.1; omega
              have hlo : ((st1.map (ex_cv ad)).map fun v => v.category).sum + (nativeFrameWords "java/lang/System" "arraycopy" 5 + 11) ≤ R.locals := by
                have e9 : nativeFrameWords "java/lang/System" "arraycopy" 5 = 7 := by decide
                have := hC.2.2.2.2.2.2.2.2.2
                rw [ex_catsum, e9]; omega
              have hml : c.maxLocals = ls.size := hC.2.2.1.trans hL.size.symm
              rcases Nat.lt_or_ge a ro with har | har
              · exact ex_copyRO hC.1 hC.2.1 hml hC.2.2.2.1 (hts _ (List.mem_of_getElem? k1)) (hts _ k2) (hts _ k3) (hts _ k4) hF.1 hR.1 hR.2.1 hR.2.2.1 (hF.2.2.1 a _ har hsa) _ 0 (ex_ws_get (cA := cA) (ad := ad) hsb hrb) rfl h1 h2 h3 h4 h5 hfr hlo hdec fin
              · exact va_copyi hC.1 hC.2.1 hml hC.2.2.2.1 (hts _ (List.mem_of_getElem? k1)) (hts _ k2) (hts _ k3) (hts _ k4) hF.1 hR.1 hR.2.1 hR.2.2.1 _ _ 0 0 (ex_ws_get (cA := cA) (ad := ad) hsa har) (ex_ws_get (cA := cA) (ad := ad) hsb hrb) rfl rfl rfl h1 h2 h3 h4 h5 (fun _ _ => rfl) hfr hlo hdec fin
            · exfalso
              rw [ex_cok, if_neg (by simp)] at hk
              split at hk
              · simp only [Bool.and_eq_true] at hk
                have := (ex_cl_of hk.1.1).2.1
                simp at this
              · cases hk
          · cases h
        · cases h
      · cases h
    · cases h
  · next k0 mi' np ci rs n6 n7 =>
    split at h
    · cases h
    · next d' =>
      split at h
      · next hcd =>
        obtain ⟨⟨hnp, hsum⟩, hrcv⟩ := hcd
        have hst : st = (st.take np).reverse.reverse ++ st.drop np := by rw [List.reverse_reverse, List.take_append_drop]
        have hsm : st.map (ex_cv ad) = (st.take np).reverse.reverse.map (ex_cv ad) ++ (st.drop np).map (ex_cv ad) := by rw [← List.map_append, ← hst]
        have hoA : ∀ v ∈ (st.take np).reverse, ex_okv w.1.1.length v := fun v hv => ho v (List.mem_of_mem_take (List.mem_reverse.mp hv))
        have hoR : ∀ v ∈ st.drop np, ex_okv w.1.1.length v := fun v hv => ho v (List.mem_of_mem_drop hv)
        have hlen : (st.take np).reverse.length = np := by rw [List.length_reverse, List.length_take]; omega
        have hk6 : (k0 :: mi' :: np :: ci :: rs).getD 0 0 ≠ 6 ∧ (k0 :: mi' :: np :: ci :: rs).getD 0 0 ≠ 7 := ⟨fun q => n6 q, fun q => n7 q⟩
        -- a call that returns
        have good : ∀ (M' : ex_M) (v : Option Value) (w2 : ex_W), mt mi' = some M' → ex_me mt (ex_run ro mt n) d' mi' (st.take np).reverse w = some (.inl v, w2) → ex_ret (ex_run ro mt n) (d' + 1) M.2.2.2.2.2.1 L lo (st.drop np) (some (.inl v, w2)) = some E → W p l e R s m args below meth c H locs (w.1.2.1 - c0) (w.1.2.2 - s0) Q (F0 m pc ls (st.map (ex_cv ad))) := by
          intro M' v w2 hM' hme hret
          rw [ex_ret_eq] at hret
          have hmm := ex_mono ro mt n _ _ _ _ _ _ _ hret
          have hle : ex_le w w2 := by
            obtain ⟨M9, -, -, row, L9, lo9, st9, w9, x1, x2⟩ := ex_me_of hme
            exact (ex_mono ro mt n _ _ _ _ _ _ _ x1).tr (ex_fin_mono x2)
          have hm1 := hmm.1
          have hm2 := hmm.2
          have hl1 := hle.1
          have hl2 := hle.2
          have vr := ex_vrun (mi := 0) (below := below) (e := e) (cells := w.1.2.1 - c0) (slots := w.1.2.2 - s0) (rest := st.drop np) hH hA (r := k0 :: mi' :: np :: ci :: rs) hM' hC hF hR hL.size hi hdec hk6 hk hme hoA hlen hsum hrcv (by omega) (by omega)
          rw [← hsm] at vr
          exact ex_after hH hA hM hret hlok hle hpc hC hF hR hL hn hoR hc0 hs0 hRc hRs vr kk
        have some_M : ∀ x, ex_me mt (ex_run ro mt n) d' mi' (st.take np).reverse w = some x → ∃ M', mt mi' = some M' := fun x hx => by
          obtain ⟨M', h1, -⟩ := ex_me_of hx
          exact ⟨M', h1⟩
        split at h
        · next hk9 =>
          unfold ex_retC at h
          split at h
          · next x w2 hme =>
            obtain ⟨M', hM'⟩ := some_M _ hme
            exact ex_catch hH hA hM hM' h hi hdec hk9 hk hC hF hR hL hme hoA hlen hsum hrcv hc0 hs0 hRc hRs hsm kk
          · next hnx =>
            cases hme : ex_me mt (ex_run ro mt n) d' mi' (st.take np).reverse w with
            | none => rw [hme] at h; cases h
            | some y =>
              obtain ⟨y, w2⟩ := y
              cases y with
              | inr x => exact absurd hme (hnx x w2)
              | inl v =>
                obtain ⟨M', hM'⟩ := some_M _ hme
                rw [hme] at h
                exact good M' v w2 hM' hme h
        · cases hme : ex_me mt (ex_run ro mt n) d' mi' (st.take np).reverse w with
          | none => rw [hme] at h; cases h
          | some y =>
            obtain ⟨y, w2⟩ := y
            cases y with
            | inr x => rw [hme] at h; cases h
            | inl v =>
              obtain ⟨M', hM'⟩ := some_M _ hme
              rw [hme] at h
              exact good M' v w2 hM' hme h
      · cases h
  · cases h
set_option maxHeartbeats 8000000 in
theorem ex_all (hH : ex_Hyp l Ts Ns mt mp tsl ro sts) : ∀ n, ex_AA l Ts Ns mt mp tsl ro sts n
  | 0 => fun d mi M L lo st w E hM h => by cases h
  | n + 1 => by
    have ih := ex_all hH n
    intro d mi M L lo st w E hM h hlok p e R s m args below meth c H locs ls ad D cA z0 c0 s0 Q hC hF hR hL hn ho hc0 hs0 hRc hRs kk
    have hmok := hH.2.1 mi M hM
    simp only [ex_mok, Bool.and_eq_true, decide_eq_true_eq] at hmok
    obtain ⟨-, hall⟩ := hmok
    replace h : ex_body ro mt (ex_run ro mt n) d M.2.2.2.2.2.1 L lo st w = some E := h
    -- going on with the same world
    have goOn : ∀ (L' : List ex_R) (lo' : ex_Lo) (st' : List Value) (ls' : Array Slot), ex_run ro mt n d M.2.2.2.2.2.1 L' lo' st' w = some E → ex_lok Ts Ns mt mp tsl ro sts M L' = true → ex_LR ad w.1.1.length M.2.2.1 lo' ls' → ex_nod lo' → (∀ v ∈ st', ex_okv w.1.1.length v) → W p l e R s m args below meth c H locs (w.1.2.1 - c0) (w.1.2.2 - s0) Q (F0 m (ex_pc L') ls' (st'.map (ex_cv ad))) := fun L' lo' st' ls' h1 h2 h3 h4 h5 =>
      ih d mi M L' lo' st' w E hM h1 h2 p e R s m args below meth c H locs ls' ad D cA z0 c0 s0 Q hC hF hR h3 h4 h5 hc0 hs0 hRc hRs kk
    -- with another world
    have goW : ∀ (L' : List ex_R) (st' : List Value) (w' : ex_W) (ad' : Nat → Nat) (H' : Heap) (locs' : List Loc), ex_run ro mt n d M.2.2.2.2.2.1 L' lo st' w' = some E → ex_lok Ts Ns mt mp tsl ro sts M L' = true → ex_le w w' → ex_Rel D cA z0 ro ad' w' s H' locs' → ex_agr ro sts ad ad' w w' → (∀ v ∈ st', ex_okv w'.1.1.length v) → W p l e R s m args below meth c H' locs' (w'.1.2.1 - c0) (w'.1.2.2 - s0) Q (F0 m (ex_pc L') ls (st'.map (ex_cv ad'))) := fun L' st' w' ad' H' locs' h1 h2 h3 h4 h5 h6 =>
      ih d mi M L' lo st' w' E hM h1 h2 p e R s m args below meth c H' locs' ls ad' D cA z0 c0 s0 Q hC (hF.agr h5 hR.2.2.2.1 hR.2.2.2.2 hH.2.2.2.1) h4 (hL.same h5.2.2 (fun i hi => (h5.1 i hi).1)) hn h6 (Nat.le_trans hc0 h3.1) (Nat.le_trans hs0 h3.2) hRc hRs (fun ad1 H1 locs1 ls1 k1 k2 k3 k4 k5 => kk ad1 H1 locs1 ls1 k1 (h5.tr k2) k3 k4 k5)
    have hblk := ex_blk hall
    cases L with
    | nil => cases h
    | cons row L =>
      obtain ⟨pc, len, ins, r, k⟩ := row
      have hlok0 := hlok
      rw [ex_lok, Bool.and_eq_true] at hlok
      obtain ⟨hrow, hlL⟩ := hlok
      rw [ex_rok, Bool.and_eq_true] at hrow
      obtain ⟨hdec, hrow⟩ := hrow
      replace hdec := of_decide_eq_true hdec
      have heapC : ∀ ins', ex_hok Ts Ns M.2.2.2.2.1 (M.1.name == "<init>") ro sts ins' len r k = true → ex_ftl (pc + len) L = true → decode M.2.1 pc = .ok (ins', len) → (match ex_heap ro ins' r k st w with
          | some (st, w) => ex_run ro mt n d M.2.2.2.2.2.1 L lo st w
          | none => none) = some E → W p l e R s m args below meth c H locs (w.1.2.1 - c0) (w.1.2.2 - s0) Q (F0 m pc ls (st.map (ex_cv ad))) := by
        intro ins' hk hft hd h
        split at h
        · next st' w' hh =>
          have hm := ex_mono ro mt n _ _ _ _ _ _ _ h
          exact ex_heap_ok hC.1 hC.2.1 hC.2.2.2.1 hC.2.2.2.2.2.2.1 hC.2.2.2.2.1 hH.2.2.1 hH.2.2.2.1 hF hR hh hk hd ho hc0 hs0 (Nat.le_trans (Nat.sub_le_sub_right hm.1 _) hRc) (Nat.le_trans (Nat.sub_le_sub_right hm.2 _) hRs) (fun ad' H1 locs1 k1 k2 k3 => by
            rw [← ex_ftl_pc hft h]; exact goW L st' w' ad' H1 locs1 h hlL (ex_heap_mono hh) k1 k2 k3)
        · cases h
      have dflt : ∀ ins', ((if ex_isp ins' then ex_kok ins' k len else ex_hok Ts Ns M.2.2.2.2.1 (M.1.name == "<init>") ro sts ins' len r k) && ex_ftl (pc + len) L) = true → decode M.2.1 pc = .ok (ins', len) → (match ex_pure ins' k lo st with
          | some (lo, st) => ex_run ro mt n d M.2.2.2.2.2.1 L lo st w
          | none => match ex_heap ro ins' r k st w with
            | some (st, w) => ex_run ro mt n d M.2.2.2.2.2.1 L lo st w
            | none => none) = some E → W p l e R s m args below meth c H locs (w.1.2.1 - c0) (w.1.2.2 - s0) Q (F0 m pc ls (st.map (ex_cv ad))) := by
        intro ins' hk hd h
        rw [Bool.and_eq_true] at hk
        obtain ⟨hk, hft⟩ := hk
        split at h
        · next lo' st' hp =>
          rw [if_pos (ex_isp_of hp)] at hk
          exact ex_pure_ok hC.1 hC.2.1 hp hd hk hL hn ho (fun ls' l1 l2 l3 => by rw [← ex_ftl_pc hft h]; exact goOn L lo' st' ls' h hlL l1 l2 l3)
        · by_cases hi : ex_isp ins' = true
          · exfalso
            split at h
            · next hh => rw [ex_isp_not hh] at hi; cases hi
            · cases h
          · rw [if_neg hi] at hk
            exact heapC ins' hk hft hd h
      show W p l e R s m args below meth c H locs (w.1.2.1 - c0) (w.1.2.2 - s0) Q (F0 m pc ls (st.map (ex_cv ad)))
      unfold ex_body at h
      cases ins with
      | goto off =>
        dsimp only at h hrow
        simp only [Bool.and_eq_true, decide_eq_true_eq] at hrow
        obtain ⟨rfl, hj⟩ := hrow
        exact lv_goto hC.1 hC.2.1 hdec (ex_jmp_pc hj) (goOn _ lo st ls h (hblk _) hL hn ho)
      | ifCond cnd off =>
        dsimp only at h hrow
        simp only [Bool.and_eq_true, decide_eq_true_eq] at hrow
        obtain ⟨⟨rfl, hj⟩, hft⟩ := hrow
        have ht := ex_jmp_pc hj
        have hft := ex_ft_pc hft
        split at h
        · next x st1 =>
          have gj : ex_run ro mt n d M.2.2.2.2.2.1 (M.2.2.2.2.2.1.getD (r.getD 0 0) []) lo st1 w = some E → W p l e R s m args below meth c H locs (w.1.2.1 - c0) (w.1.2.2 - s0) Q (F0 m (ex_pc (M.2.2.2.2.2.1.getD (r.getD 0 0) [])) ls (st1.map (ex_cv ad))) := fun h => goOn _ lo st1 ls h (hblk _) hL hn (ex_tl ho)
          have gf : ex_run ro mt n d M.2.2.2.2.2.1 L lo st1 w = some E → W p l e R s m args below meth c H locs (w.1.2.1 - c0) (w.1.2.2 - s0) Q (F0 m (pc + 3) ls (st1.map (ex_cv ad))) := fun h => by rw [← hft]; exact goOn L lo st1 ls h hlL hL hn (ex_tl ho)
          cases cnd with
          | eq => exact lv_if_eq hC.1 hC.2.1 hdec ht (fun q => gj (by rw [ex_if, if_pos q] at h; exact h)) (fun q => gf (by rw [ex_if, if_neg q] at h; exact h))
          | ne => exact lv_if_ne hC.1 hC.2.1 hdec ht (fun q => gj (by rw [ex_if, if_neg q] at h; exact h)) (fun q => gf (by rw [ex_if, if_pos q] at h; exact h))
          | lt => exact lv_if_lt hC.1 hC.2.1 hdec ht (fun q => gj (by rw [ex_if, if_pos q] at h; exact h)) (fun q => gf (by rw [ex_if, if_neg q] at h; exact h))
          | ge => exact lv_if_ge hC.1 hC.2.1 hdec ht (fun q => gj (by rw [ex_if, if_neg (Int32.not_lt.mpr q)] at h; exact h)) (fun q => gf (by rw [ex_if, if_pos (Int32.not_le.mp q)] at h; exact h))
          | gt => exact lv_if_gt hC.1 hC.2.1 hdec ht (fun q => gj (by rw [ex_if, if_pos q] at h; exact h)) (fun q => gf (by rw [ex_if, if_neg q] at h; exact h))
          | le => exact lv_if_le hC.1 hC.2.1 hdec ht (fun q => gj (by rw [ex_if, if_neg (Int32.not_lt.mpr q)] at h; exact h)) (fun q => gf (by rw [ex_if, if_pos (Int32.not_le.mp q)] at h; exact h))
        · cases h
      | if_icmp cnd off =>
        dsimp only at h hrow
        simp only [Bool.and_eq_true, decide_eq_true_eq] at hrow
        obtain ⟨⟨rfl, hj⟩, hft⟩ := hrow
        have ht := ex_jmp_pc hj
        have hft := ex_ft_pc hft
        split at h
        · next y x st1 =>
          have gj : ex_run ro mt n d M.2.2.2.2.2.1 (M.2.2.2.2.2.1.getD (r.getD 0 0) []) lo st1 w = some E → W p l e R s m args below meth c H locs (w.1.2.1 - c0) (w.1.2.2 - s0) Q (F0 m (ex_pc (M.2.2.2.2.2.1.getD (r.getD 0 0) [])) ls (st1.map (ex_cv ad))) := fun h => goOn _ lo st1 ls h (hblk _) hL hn (ex_tl (ex_tl ho))
          have gf : ex_run ro mt n d M.2.2.2.2.2.1 L lo st1 w = some E → W p l e R s m args below meth c H locs (w.1.2.1 - c0) (w.1.2.2 - s0) Q (F0 m (pc + 3) ls (st1.map (ex_cv ad))) := fun h => by rw [← hft]; exact goOn L lo st1 ls h hlL hL hn (ex_tl (ex_tl ho))
          cases cnd with
          | eq => exact lv_icmp_eq hC.1 hC.2.1 hdec ht (fun q => gj (by rw [ex_if, if_pos q] at h; exact h)) (fun q => gf (by rw [ex_if, if_neg q] at h; exact h))
          | ne => exact lv_icmp_ne hC.1 hC.2.1 hdec ht (fun q => gj (by rw [ex_if, if_neg q] at h; exact h)) (fun q => gf (by rw [ex_if, if_pos q] at h; exact h))
          | lt => exact lv_icmp_lt hC.1 hC.2.1 hdec ht (fun q => gj (by rw [ex_if, if_pos q] at h; exact h)) (fun q => gf (by rw [ex_if, if_neg q] at h; exact h))
          | ge => exact lv_icmp_ge hC.1 hC.2.1 hdec ht (fun q => gj (by rw [ex_if, if_neg (Int32.not_lt.mpr q)] at h; exact h)) (fun q => gf (by rw [ex_if, if_pos (Int32.not_le.mp q)] at h; exact h))
          | gt => exact lv_icmp_gt hC.1 hC.2.1 hdec ht (fun q => gj (by rw [ex_if, if_pos q] at h; exact h)) (fun q => gf (by rw [ex_if, if_neg q] at h; exact h))
          | le => exact lv_icmp_le hC.1 hC.2.1 hdec ht (fun q => gj (by rw [ex_if, if_neg (Int32.not_lt.mpr q)] at h; exact h)) (fun q => gf (by rw [ex_if, if_pos (Int32.not_le.mp q)] at h; exact h))
        · cases h
      | if_acmp cnd off =>
        dsimp only at h hrow
        simp only [Bool.and_eq_true, decide_eq_true_eq] at hrow
        obtain ⟨⟨rfl, hj⟩, hft⟩ := hrow
        have ht := ex_jmp_pc hj
        have hft := ex_ft_pc hft
        split at h
        · next y x st1 =>
          have gj : ex_run ro mt n d M.2.2.2.2.2.1 (M.2.2.2.2.2.1.getD (r.getD 0 0) []) lo st1 w = some E → W p l e R s m args below meth c H locs (w.1.2.1 - c0) (w.1.2.2 - s0) Q (F0 m (ex_pc (M.2.2.2.2.2.1.getD (r.getD 0 0) [])) ls (st1.map (ex_cv ad))) := fun h => goOn _ lo st1 ls h (hblk _) hL hn (ex_tl (ex_tl ho))
          have gf : ex_run ro mt n d M.2.2.2.2.2.1 L lo st1 w = some E → W p l e R s m args below meth c H locs (w.1.2.1 - c0) (w.1.2.2 - s0) Q (F0 m (pc + 3) ls (st1.map (ex_cv ad))) := fun h => by rw [← hft]; exact goOn L lo st1 ls h hlL hL hn (ex_tl (ex_tl ho))
          split at h
          case isFalse => cases h
          next hw =>
          have hinj : ∀ q : some (ad x) = some (ad y), x = y := fun q => by
            obtain ⟨a1, a2⟩ := ex_isw_of hw.1
            obtain ⟨b1, b2⟩ := ex_isw_of hw.2
            exact hF.2.2.2.2.2.2.2.2 x y a1 b1 a2 b2 (Option.some.inj q)
          cases cnd with
          | eq => exact lv_acmp_eq (rx := some (ad x)) (ry := some (ad y)) hC.1 hC.2.1 hdec ht (fun q => gj (by dsimp only at h; rw [if_pos (hinj q)] at h; exact h)) (fun q => gf (by dsimp only at h; rw [if_neg (fun z => q (by rw [z]))] at h; exact h))
          | ne => exact lv_acmp_ne (rx := some (ad x)) (ry := some (ad y)) hC.1 hC.2.1 hdec ht (fun q => gj (by dsimp only at h; rw [if_neg (fun z => q (by rw [z]))] at h; exact h)) (fun q => gf (by dsimp only at h; rw [if_pos (hinj q)] at h; exact h))
        · cases h
      | tableswitch df lw hg offs =>
        dsimp only at h hrow
        simp only [Bool.and_eq_true] at hrow
        obtain ⟨hj, hjs⟩ := hrow
        split at h
        · next x st1 =>
          split at h
          · next hx => exact lv_tableOut hC.1 hC.2.1 hdec hx (ex_jmp_pc hj) (goOn _ lo st1 ls h (hblk _) hL hn (ex_tl ho))
          · next hx =>
            have h1 : ¬ x.toInt < lw := fun q => hx (Or.inl q)
            have h2 : ¬ hg < x.toInt := fun q => hx (Or.inr q)
            have hi : (x.toInt - lw).toNat < (hg - lw + 1).toNat := by omega
            have hj2 := List.all_eq_true.mp hjs _ (List.mem_range.mpr hi)
            split at hj2
            · next off hoff => exact lv_tableIn hC.1 hC.2.1 hdec h1 h2 hoff (ex_jmp_pc hj2) (goOn _ lo st1 ls h (hblk _) hL hn (ex_tl ho))
            · cases hj2
        · cases h
      | ireturn => cases h; exact kk ad H locs ls hR ex_agr.rf hL ho hlok0
      | lreturn => cases h; exact kk ad H locs ls hR ex_agr.rf hL ho hlok0
      | return_ => cases h; exact kk ad H locs ls hR ex_agr.rf hL ho hlok0
      | new i =>
        dsimp only at h hrow
        by_cases hr : r.getD 0 0 = 1
        · split at h
          · cases h; exact kk ad H locs ls hR ex_agr.rf hL ho hlok0
          · next hne => exact absurd hr hne
        · rw [if_neg hr, Bool.and_eq_true] at hrow
          split at h
          · next hr1 => exact absurd hr1 hr
          · exact heapC _ hrow.1 hrow.2 hdec h
      | invokevirtual i =>
        dsimp only at h hrow
        simp only [Bool.and_eq_true, decide_eq_true_eq] at hrow
        obtain ⟨⟨rfl, hft⟩, hck⟩ := hrow
        exact ex_inv_ok hH ih hM h hlL (Or.inl rfl) hdec (ex_ft_pc hft) hck hC hF hR hL hn ho hc0 hs0 hRc hRs kk
      | invokestatic i =>
        dsimp only at h hrow
        simp only [Bool.and_eq_true, decide_eq_true_eq] at hrow
        obtain ⟨⟨rfl, hft⟩, hck⟩ := hrow
        exact ex_inv_ok hH ih hM h hlL (Or.inr (Or.inl rfl)) hdec (ex_ft_pc hft) hck hC hF hR hL hn ho hc0 hs0 hRc hRs kk
      | invokespecial i =>
        dsimp only at h hrow
        simp only [Bool.and_eq_true, decide_eq_true_eq] at hrow
        obtain ⟨⟨rfl, hft⟩, hck⟩ := hrow
        exact ex_inv_ok hH ih hM h hlL (Or.inr (Or.inr rfl)) hdec (ex_ft_pc hft) hck hC hF hR hL hn ho hc0 hs0 hRc hRs kk
      | _ => exact dflt _ hrow hdec h
end EXI
