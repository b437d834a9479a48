/-! What a program's rows must be, and that cells and slots only grow -/
def ex_isp (ins : Instr) : Bool := match ins with
  | .iconst _ | .bipush _ | .sipush _ | .lconst _ | .iload _ | .iload_n _ | .lload _ | .lload_n _ | .aload _ | .aload_n _ | .istore _ | .istore_n _ | .lstore _ | .lstore_n _ | .astore _ | .astore_n _ | .iinc _ _ => true
  | .iadd | .isub | .imul | .iand | .ior | .ixor | .ishl | .ishr | .iushr | .idiv | .irem | .ladd | .lsub | .lmul | .land | .lor | .ldiv | .lrem | .lshl | .lushr | .lcmp | .i2l | .l2i | .i2b | .i2c | .dup | .dup2 | .pop => true
  | _ => false
theorem ex_isp_of {ins : Instr} {k : Int32} {lo lo' : ex_Lo} {st st' : List Value} (h : ex_pure ins k lo st = some (lo', st')) : ex_isp ins = true := by
  cases ins <;> first | rfl | (simp only [ex_pure, reduceCtorEq] at h; done)
theorem ex_isp_not {ro : Nat} {ins : Instr} {r : List Nat} {k : Int32} {st st' : List Value} {w w' : ex_W} (h : ex_heap ro ins r k st w = some (st', w')) : ex_isp ins = false := by
  cases ins <;> first | rfl | (simp only [ex_heap, reduceCtorEq] at h; done)
def ex_jmp (cd : List (List ex_R)) (pc : Nat) (off : Int) (t : Nat) : Bool := match cd.getD t [] with
  | x :: _ => decide ((pc : Int) + off = (x.1 : Int))
  | [] => false
def ex_ft (pc : Nat) (L : List ex_R) : Bool := match L with
  | x :: _ => decide (x.1 = pc)
  | [] => false
/-- .. or the rows end: the small machine stops there -/
def ex_ftl (pc : Nat) (L : List ex_R) : Bool := match L with
  | x :: _ => decide (x.1 = pc)
  | [] => true
def ex_en (e : Nat) : String := match e with
  | 0 => "java/lang/IllegalArgumentException"
  | _ => "java/util/NoSuchElementException"
def ex_es : List String := ["java/lang/RuntimeException", "java/lang/Exception"]
def ex_cn1 (ci : Nat) : String := if ci < 100 then (match vwCl[ci]? with
  | some q => q.1
  | none => "") else ex_rn ci
/-- a method's code, as a word -/
def ex_cw (M : ex_M) : Cond := if M.2.2.2.2.2.2 = [] then .code M.1 M.2.1 M.2.2.1 M.2.2.2.1 else .codeWith M.1 M.2.1 M.2.2.1 M.2.2.2.1 M.2.2.2.2.2.2
/-- the words of a method, at its places: initialized, then of a static one static, of another instanceMethod, selects -/
def ex_mw (Ts : List Cond) (M : ex_M) (ps : List Nat) : Bool :=
  decide (Ts[ps.getD 1 0]? = some (.initialized M.1.cls)) && (match ps.getD 2 0 with
    | 0 => decide (Ts[ps.getD 3 0]? = some (.static M.1))
    | 1 => decide (Ts[ps.getD 3 0]? = some (.instanceMethod M.1)) && decide (Ts[ps.getD 4 0]? = some (.selects M.1.cls M.1 M.1))
    | 3 => true
    | _ => decide (Ts[ps.getD 3 0]? = some (.instanceMethod M.1)) && decide (M.1.name = "<init>"))
/-- a call of M by that pool index -/
def ex_cl (Ts Ns : List Cond) (own : String) (idx : Nat) (r : List Nat) (k : Int32) (M : ex_M) (ps : List Nat) (kv : Nat) (ks : List Nat) (extra : Nat) : Bool :=
  decide (ps.getD 2 0 = kv) && decide (r.getD 0 0 ∈ ks) && decide ((parseMethodDescriptor M.1.desc).map (fun d => d.parameters.length + extra) = some (r.getD 2 0)) &&
  (if r.getD 0 0 = 1 ∨ r.getD 0 0 = 3 ∨ r.getD 0 0 = 5 then decide (Ns[k.toNatClampNeg]? = some (.methodLinkNest own idx M.1 "PileTricks")) else decide (Ts[k.toNatClampNeg]? = some (.methodLink own idx M.1)))
/-- the law's own pool: where the classes that it catches stand -/
def ex_ct (x : Nat) : Nat := match x with
  | 0 => 13
  | _ => 18
/-- the handlers: each pair of rs, in the table's order -/
def ex_hd (bytes : ByteArray) (nL : Nat) (own : String) (pc : Nat) (cd : List (List ex_R)) : List Nat → List (Nat × Nat × Nat × Nat) → List Nat → Bool
  | x :: b :: rs, q :: hh, seen => (match cd.getD b [] with
      | [ra, rc, rr] => decide (q.1 ≤ pc) && decide (pc < q.2.1) && decide (q.2.2.2 ≠ 0) && decide (own = "PileTricksLaw" ∧ x < 2 ∧ q.2.2.2 = ex_ct x) && decide (ra.1 = q.2.2.1) && decide (decode bytes ra.1 = .ok (ra.2.2.1, ra.2.1)) && decide (decode bytes rc.1 = .ok (rc.2.2.1, rc.2.1)) && decide (decode bytes rr.1 = .ok (.ireturn, 1)) && decide (rr.2.2.1 = .ireturn) && decide (rr.2.1 = 1) && decide (rc.1 = ra.1 + ra.2.1) && decide (rr.1 = rc.1 + rc.2.1) && ex_kok ra.2.2.1 ra.2.2.2.2 ra.2.1 && ex_kok rc.2.2.1 rc.2.2.2.2 rc.2.1 && (match ra.2.2.1 with
          | .astore_n i => decide (i.val < nL)
          | .astore i => decide (i < nL)
          | _ => false) && (match rc.2.2.1 with
          | .iconst _ => true
          | _ => false) && (seen.all fun y => decide (x = 0 ∧ y = 1))
      | _ => false) && ex_hd bytes nL own pc cd rs hh (x :: seen)
  | [], [], _ => true
  | _, _, _ => false
def ex_cok (Ts Ns : List Cond) (mt : Nat → Option ex_M) (mp : Nat → List Nat) (M0 : ex_M) (pc : Nat) (ins : Instr) (r : List Nat) (k : Int32) : Bool := match ins with
  | .invokevirtual idx => (match mt (r.getD 1 0) with
    | some M => ex_cl Ts Ns M0.2.2.2.2.1 idx r k M (mp (r.getD 1 0)) 1 [0, 1, 9] 1 && decide (M.1.cls = ex_cn1 (r.getD 3 0) ∧ (r.getD 3 0 < 10 ∨ 100 ≤ r.getD 3 0 ∧ r.getD 3 0 < 200)) && decide (M.2.2.2.2.2.2 = []) && (if r.getD 0 0 = 9 then decide (plainName M.1.cls = true) && ex_hd M0.2.1 M0.2.2.1 M0.2.2.2.2.1 pc M0.2.2.2.2.2.1 (r.drop 4) M0.2.2.2.2.2.2 [] else true)
    | none => false)
  | .invokestatic idx => if r.getD 0 0 = 7 then decide (Ts[k.toNatClampNeg]? = some (.methodLink M0.2.2.2.2.1 idx arraycopyName)) else (match mt (r.getD 1 0) with
    | some M => ex_cl Ts Ns M0.2.2.2.2.1 idx r k M (mp (r.getD 1 0)) 0 [2, 3, 8] 0 && decide (r.getD 0 0 = 8 ↔ M.2.2.2.2.2.2 ≠ [])
    | none => false)
  | .invokespecial idx => if r.getD 0 0 = 6 then decide (Ts[k.toNatClampNeg]? = some (.methodLink M0.2.2.2.2.1 idx objectInit)) else (match mt (r.getD 1 0) with
    | some M => ex_cl Ts Ns M0.2.2.2.2.1 idx r k M (mp (r.getD 1 0)) 2 [4, 5] 1 && decide (M.2.2.2.1 = none) && decide (M.2.2.2.2.2.2 = [])
    | none => false)
  | _ => false
/-- throw new: class, pool indices -/
def ex_tok (Ts : List Cond) (tsl : List (String × Nat × Nat)) (M0 : ex_M) (pc idx : Nat) (r : List Nat) : Bool := match tsl[r.getD 2 0]? with
  | some q => decide (q.1 = M0.2.2.2.2.1) && decide (q.2.2 = r.getD 1 0) && decide (r.getD 1 0 < 2) && decide (Ts[r.getD 3 0]? = some (.classLink M0.2.2.2.2.1 idx (ex_en (r.getD 1 0)))) && decide (Ts[r.getD 4 0]? = some (.initialized (ex_en (r.getD 1 0)))) && decide (decode M0.2.1 (pc + 3) = .ok (.dup, 1)) && decide (decode M0.2.1 (pc + 4) = .ok (.invokespecial q.2.1, 3)) && decide (decode M0.2.1 (pc + 7) = .ok (.athrow, 1)) && decide (M0.2.2.2.2.2.2 = [])
  | none => false
def ex_rok (Ts Ns : List Cond) (mt : Nat → Option ex_M) (mp : Nat → List Nat) (tsl : List (String × Nat × Nat)) (ro : Nat) (sts : List ex_St) (M0 : ex_M) (row : ex_R) (L : List ex_R) : Bool :=
  decide (decode M0.2.1 row.1 = .ok (row.2.2.1, row.2.1)) && (match row.2.2.1 with
  | .goto off => decide (row.2.1 = 3) && ex_jmp M0.2.2.2.2.2.1 row.1 off (row.2.2.2.1.getD 0 0)
  | .ifCond _ off => decide (row.2.1 = 3) && ex_jmp M0.2.2.2.2.2.1 row.1 off (row.2.2.2.1.getD 0 0) && ex_ft (row.1 + 3) L
  | .if_icmp _ off => decide (row.2.1 = 3) && ex_jmp M0.2.2.2.2.2.1 row.1 off (row.2.2.2.1.getD 0 0) && ex_ft (row.1 + 3) L
  | .if_acmp _ off => decide (row.2.1 = 3) && ex_jmp M0.2.2.2.2.2.1 row.1 off (row.2.2.2.1.getD 0 0) && ex_ft (row.1 + 3) L
  | .tableswitch df l h offs => ex_jmp M0.2.2.2.2.2.1 row.1 df (row.2.2.2.1.getD 0 0) && ((List.range (h - l + 1).toNat).all fun i => match offs[i]? with
    | some off => ex_jmp M0.2.2.2.2.2.1 row.1 off (row.2.2.2.1.getD (1 + i) 0)
    | none => false)
  | .ireturn => decide (row.2.1 = 1)
  | .lreturn => decide (row.2.1 = 1)
  | .return_ => decide (row.2.1 = 1)
  | .invokevirtual i => decide (row.2.1 = 3) && ex_ft (row.1 + 3) L && ex_cok Ts Ns mt mp M0 row.1 (.invokevirtual i) row.2.2.2.1 row.2.2.2.2
  | .invokestatic i => decide (row.2.1 = 3) && ex_ft (row.1 + 3) L && ex_cok Ts Ns mt mp M0 row.1 (.invokestatic i) row.2.2.2.1 row.2.2.2.2
  | .invokespecial i => decide (row.2.1 = 3) && ex_ft (row.1 + 3) L && ex_cok Ts Ns mt mp M0 row.1 (.invokespecial i) row.2.2.2.1 row.2.2.2.2
  | .new i => if row.2.2.2.1.getD 0 0 = 1 then decide (row.2.1 = 3) && ex_tok Ts tsl M0 row.1 i row.2.2.2.1 else ex_hok Ts Ns M0.2.2.2.2.1 (M0.1.name == "<init>") ro sts (.new i) row.2.1 row.2.2.2.1 row.2.2.2.2 && ex_ftl (row.1 + row.2.1) L
  | ins => (if ex_isp ins then ex_kok ins row.2.2.2.2 row.2.1 else ex_hok Ts Ns M0.2.2.2.2.1 (M0.1.name == "<init>") ro sts ins row.2.1 row.2.2.2.1 row.2.2.2.2) && ex_ftl (row.1 + row.2.1) L)
def ex_lok (Ts Ns : List Cond) (mt : Nat → Option ex_M) (mp : Nat → List Nat) (tsl : List (String × Nat × Nat)) (ro : Nat) (sts : List ex_St) (M0 : ex_M) : List ex_R → Bool
  | [] => true
  | row :: L => ex_rok Ts Ns mt mp tsl ro sts M0 row L && ex_lok Ts Ns mt mp tsl ro sts M0 L
/-- a method's rows -/
def ex_mok (Ts Ns : List Cond) (mt : Nat → Option ex_M) (mp : Nat → List Nat) (tsl : List (String × Nat × Nat)) (ro : Nat) (sts : List ex_St) (mi : Nat) (M : ex_M) : Bool :=
  ex_mw Ts M (mp mi) && decide (plainFor M.1 = true ∧ (M.2.2.2.2.2.2 = [] ∨ plainName M.1.cls = true)) && decide (M.1.cls ≠ "java/lang/invoke/MethodHandle") && decide (M.1.cls ≠ "java/lang/invoke/VarHandle") && decide (M.1.cls = M.2.2.2.2.1) && decide (M.2.2.1 ≤ 40) && ex_ft 0 (M.2.2.2.2.2.1.getD 0 []) && M.2.2.2.2.2.1.all (ex_lok Ts Ns mt mp tsl ro sts M)
theorem ex_blk {Ts Ns : List Cond} {mt : Nat → Option ex_M} {mp : Nat → List Nat} {tsl : List (String × Nat × Nat)} {ro : Nat} {sts : List ex_St} {M : ex_M} (h : M.2.2.2.2.2.1.all (ex_lok Ts Ns mt mp tsl ro sts M) = true) (t : Nat) : ex_lok Ts Ns mt mp tsl ro sts M (M.2.2.2.2.2.1.getD t []) = true := by
  rw [List.getD_eq_getElem?_getD]
  cases ht : M.2.2.2.2.2.1[t]? with
  | none => rfl
  | some L => exact List.all_eq_true.mp h L (List.mem_of_getElem? ht)
theorem ex_heap_mono {ro : Nat} {ins : Instr} {r : List Nat} {k : Int32} {st st' : List Value} {w w' : ex_W} (h : ex_heap ro ins r k st w = some (st', w')) : w.1.2.1 ≤ w'.1.2.1 ∧ w.1.2.2 ≤ w'.1.2.2 := by
  have key : ∀ {c : Prop} [Decidable c] {a : Option (List Value × ex_W)}, (if c then a else none) = some (st', w') → a = some (st', w') := fun {c} _ {a} h => by
    by_cases hc : c
    · rw [if_pos hc] at h; exact h
    · rw [if_neg hc] at h; cases h
  have same : w' = w → w.1.2.1 ≤ w'.1.2.1 ∧ w.1.2.2 ≤ w'.1.2.2 := fun e => by rw [e]; exact ⟨Nat.le_refl _, Nat.le_refl _⟩
  cases ins <;> first | (simp only [ex_heap, reduceCtorEq] at h; done) | skip
  case new i => cases h; exact ⟨Nat.le_add_right _ _, Nat.le_add_right _ _⟩
  case getstatic i => cases h; exact ⟨Nat.le_refl _, Nat.le_refl _⟩
  case ldc i => cases h; exact ⟨Nat.le_refl _, Nat.le_refl _⟩
  case ldc_w i => cases h; exact ⟨Nat.le_refl _, Nat.le_refl _⟩
  case ldc2_w i => cases h; exact ⟨Nat.le_refl _, Nat.le_refl _⟩
  case newarray t =>
    simp only [ex_heap] at h
    split at h
    · have h := key h; cases h; exact ⟨Nat.le_add_right _ _, Nat.le_add_right _ _⟩
    · cases h
  case putfield i =>
    simp only [ex_heap] at h
    split at h <;> split at h <;> first | (cases h; done) | (split at h <;> first | (cases h; done) | (have h := key h; first | (cases h; exact ⟨Nat.le_refl _, Nat.le_refl _⟩) | (have h := key h; cases h; exact ⟨Nat.le_refl _, Nat.le_refl _⟩)))
  all_goals
    simp only [ex_heap] at h
    split at h <;> first | (cases h; done) | (split at h <;> first | (cases h; done) | (have h := key h; cases h; exact ⟨Nat.le_refl _, Nat.le_refl _⟩))
abbrev ex_le (w w' : ex_W) : Prop := w.1.2.1 ≤ w'.1.2.1 ∧ w.1.2.2 ≤ w'.1.2.2
theorem ex_le.tr {a b c : ex_W} (h : ex_le a b) (g : ex_le b c) : ex_le a c := ⟨Nat.le_trans h.1 g.1, Nat.le_trans h.2 g.2⟩
theorem ex_fin_mono {ret : Option FieldType} {row : ex_R} {st : List Value} {w : ex_W} {x : Option Value ⊕ Nat} {w' : ex_W} (h : ex_fin ret row st w = some (x, w')) : ex_le w w' := by
  unfold ex_fin at h
  split at h
  · split at h
    · split at h
      · cases h; exact ⟨Nat.le_refl _, Nat.le_refl _⟩
      · cases h
    · cases h
  · split at h
    · split at h
      · cases h; exact ⟨Nat.le_refl _, Nat.le_refl _⟩
      · cases h
    · cases h
  · split at h
    · split at h
      · cases h; exact ⟨Nat.le_refl _, Nat.le_refl _⟩
      · cases h
    · cases h
  · split at h
    · split at h
      · cases h; exact ⟨Nat.le_add_right _ _, Nat.le_add_right _ _⟩
      · cases h
    · cases h
  · cases h
theorem ex_me_of {mt : Nat → Option ex_M} {self : ex_S} {d mi : Nat} {args : List Value} {w : ex_W} {x : ex_A} (h : ex_me mt self d mi args w = some x) : ∃ M, mt mi = some M ∧ (ex_sl args).length ≤ M.2.2.1 ∧ ∃ row L lo st w1, self d M.2.2.2.2.2.1 (M.2.2.2.2.2.1.getD 0 []) (ex_ent M.2.2.1 args) [] w = some (row :: L, lo, st, w1) ∧ ex_fin M.2.2.2.1 row st w1 = some x := by
  unfold ex_me at h
  split at h
  · cases h
  · next M hM =>
    split at h
    · next hl =>
      unfold ex_end at h
      split at h
      · next row L lo st w1 hr => exact ⟨M, hM, hl, row, L, lo, st, w1, hr, h⟩
      · cases h
    · cases h
theorem ex_cat_w {cd : List (List ex_R)} {e : Nat} {w : ex_W} {E : ex_E} : ∀ (rs : List Nat), ex_cat cd e w rs = some E → E.2.2.2 = w
  | x :: b :: rs, h => by
    unfold ex_cat at h
    split at h
    · split at h
      · cases h; rfl
      · cases h
    · exact ex_cat_w rs h
  | [_], h => by cases h
  | [], h => by cases h
theorem ex_mono (ro : Nat) (mt : Nat → Option ex_M) : ∀ (n d : Nat) (cd : List (List ex_R)) (L : List ex_R) (lo : ex_Lo) (st : List Value) (w : ex_W) (E : ex_E), ex_run ro mt n d cd L lo st w = some E → ex_le w E.2.2.2
  | 0, _, _, _, _, _, _, _, h => by cases h
  | n + 1, d, cd, L, lo, st, w, E, h => by
    have ih := ex_mono ro mt n
    have ihm : ∀ (d mi : Nat) (args : List Value) (w : ex_W) (x : Option Value ⊕ Nat) (w' : ex_W), ex_me mt (ex_run ro mt n) d mi args w = some (x, w') → ex_le w w' := by
      intro d mi args w x w' h
      obtain ⟨M, -, -, row, L, lo, st, w1, h1, h2⟩ := ex_me_of h
      exact (ih _ _ _ _ _ _ _ h1).tr (ex_fin_mono h2)
    have ihr : ∀ (d : Nat) (cd : List (List ex_R)) (L : List ex_R) (lo : ex_Lo) (st : List Value) (w : ex_W) (y : Option ex_A), (∀ x w', y = some (x, w') → ex_le w w') → ex_ret (ex_run ro mt n) d cd L lo st y = some E → ex_le w E.2.2.2 := by
      intro d cd L lo st w y hy h
      unfold ex_ret at h
      split at h
      · exact (hy _ _ rfl).tr (ih _ _ _ _ _ _ _ h)
      · exact (hy _ _ rfl).tr (ih _ _ _ _ _ _ _ h)
      · cases h
    have ihi : ∀ (r : List Nat) (L : List ex_R), ex_inv ro mt (ex_run ro mt n) d cd r L lo st w = some E → ex_le w E.2.2.2 := by
      intro r L h
      unfold ex_inv at h
      split at h
      · split at h
        · split at h
          · exact ih _ _ _ _ _ _ _ h
          · cases h
        · cases h
      · split at h
        · split at h
          · split at h
            · split at h
              · have h := ih _ _ _ _ _ _ _ h; exact h
              · cases h
            · cases h
          · cases h
        · cases h
      · split at h
        · cases h
        · next d' =>
          split at h
          · split at h
            · unfold ex_retC at h
              split at h
              · next e w1 he =>
                rw [ex_cat_w _ h]
                exact ihm _ _ _ _ _ _ he
              · exact ihr _ _ _ _ _ _ _ (fun x w' hx => ihm _ _ _ _ _ _ hx) h
            · exact ihr _ _ _ _ _ _ _ (fun x w' hx => ihm _ _ _ _ _ _ hx) h
          · cases h
      · cases h
    have h : ex_body ro mt (ex_run ro mt n) d cd L lo st w = some E := h
    unfold ex_body at h
    split at h
    · cases h
    · next row L =>
      split at h
      · exact ih _ _ _ _ _ _ _ h
      · split at h
        · next c _ x st1 =>
          unfold ex_if at h
          split at h <;> split at h <;> exact ih _ _ _ _ _ _ _ h
        · cases h
      · split at h
        · unfold ex_if at h
          split at h <;> split at h <;> exact ih _ _ _ _ _ _ _ h
        · cases h
      · split at h
        · split at h
          · split at h <;> split at h <;> exact ih _ _ _ _ _ _ _ h
          · cases h
        · cases h
      · split at h
        · split at h <;> exact ih _ _ _ _ _ _ _ h
        · cases h
      · cases h; exact ⟨Nat.le_refl _, Nat.le_refl _⟩
      · cases h; exact ⟨Nat.le_refl _, Nat.le_refl _⟩
      · cases h; exact ⟨Nat.le_refl _, Nat.le_refl _⟩
      · exact ihi _ _ h
      · exact ihi _ _ h
      · exact ihi _ _ h
      · split at h
        · cases h; exact ⟨Nat.le_refl _, Nat.le_refl _⟩
        · split at h
          · next hh => exact ex_le.tr (ex_heap_mono hh) (ih _ _ _ _ _ _ _ h)
          · cases h
      · split at h
        · exact ih _ _ _ _ _ _ _ h
        · split at h
          · next hh => exact ex_le.tr (ex_heap_mono hh) (ih _ _ _ _ _ _ _ h)
          · cases h
