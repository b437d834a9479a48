/-! A small machine over worlds of numbered things: shapes, ints, longs, references, each by thing and place. What it runs, the JVM runs (parts behind). -/
abbrev ex_Lo : Type := List (Option Value)
/-- a thing: an object of a class by its number, or an array of a type with so many places -/
abbrev ex_Sh : Type := Nat ⊕ (FieldType × Nat)
/-- shapes, cells and slots made so far; ints, longs, references -/
abbrev ex_W : Type := (List ex_Sh × Nat × Nat) × (Nat → Nat → Int32) × (Nat → Nat → Int64) × (Nat → Nat → Option Nat)
/-- an instruction: its place, its length, itself, what it links, a constant -/
abbrev ex_R : Type := Nat × Nat × Instr × List Nat × Int32
/-- where a run of a method stops: rows left, locals, stack, world -/
abbrev ex_E : Type := List ex_R × ex_Lo × List Value × ex_W
/-- a method: name, code, locals, what it returns, its class, blocks, its table of handlers -/
abbrev ex_M : Type := MethodName × ByteArray × Nat × Option FieldType × String × List (List ex_R) × List (Nat × Nat × Nat × Nat)
/-- a method's answer: what it returned, or the number of the class that it threw -/
abbrev ex_A : Type := (Option Value ⊕ Nat) × ex_W
def ex_set {α : Type} (I : Nat → Nat → α) (a : Nat) (g : Nat → α) : Nat → Nat → α := fun x => if x = a then g else I x
def ex_clr (lo : ex_Lo) (i : Nat) : ex_Lo := match i with
  | 0 => lo
  | j + 1 => match lo[j]? with
    | some (some (.long _)) => lo.set j none
    | _ => lo
def ex_st1 (lo : ex_Lo) (i : Nat) (v : Value) : ex_Lo := (ex_clr lo i).set i (some v)
def ex_st2 (lo : ex_Lo) (i : Nat) (v : Value) : ex_Lo := ((ex_clr lo i).set i (some v)).set (i + 1) none
def ex_ldi (lo : ex_Lo) (i : Nat) (st : List Value) : Option (ex_Lo × List Value) := match lo[i]? with
  | some (some (.int x)) => some (lo, .int x :: st)
  | _ => none
def ex_ldl (lo : ex_Lo) (i : Nat) (st : List Value) : Option (ex_Lo × List Value) := match lo[i]? with
  | some (some (.long x)) => some (lo, .long x :: st)
  | _ => none
def ex_lda (lo : ex_Lo) (i : Nat) (st : List Value) : Option (ex_Lo × List Value) := match lo[i]? with
  | some (some (.ref x)) => some (lo, .ref x :: st)
  | _ => none
def ex_sti (lo : ex_Lo) (i : Nat) (st : List Value) : Option (ex_Lo × List Value) := match st with
  | .int x :: st => if i < lo.length then some (ex_st1 lo i (.int x), st) else none
  | _ => none
def ex_stl (lo : ex_Lo) (i : Nat) (st : List Value) : Option (ex_Lo × List Value) := match st with
  | .long x :: st => if i + 1 < lo.length then some (ex_st2 lo i (.long x), st) else none
  | _ => none
def ex_sta (lo : ex_Lo) (i : Nat) (st : List Value) : Option (ex_Lo × List Value) := match st with
  | .ref x :: st => if i < lo.length then some (ex_st1 lo i (.ref x), st) else none
  | _ => none
def ex_ii (f : Int32 → Int32 → Int32) (lo : ex_Lo) (st : List Value) : Option (ex_Lo × List Value) := match st with
  | .int y :: .int x :: st => some (lo, .int (f x y) :: st)
  | _ => none
def ex_ll (f : Int64 → Int64 → Int64) (lo : ex_Lo) (st : List Value) : Option (ex_Lo × List Value) := match st with
  | .long y :: .long x :: st => some (lo, .long (f x y) :: st)
  | _ => none
/-- what needs neither heap nor tables -/
def ex_pure (ins : Instr) (k : Int32) (lo : ex_Lo) (st : List Value) : Option (ex_Lo × List Value) := match ins with
  | .iconst _ => some (lo, .int k :: st)
  | .bipush _ => some (lo, .int k :: st)
  | .sipush _ => some (lo, .int k :: st)
  | .lconst n => some (lo, .long (if n.val = 0 then 0 else 1) :: st)
  | .iload i => ex_ldi lo i st
  | .iload_n i => ex_ldi lo i.val st
  | .lload i => ex_ldl lo i st
  | .lload_n i => ex_ldl lo i.val st
  | .aload i => ex_lda lo i st
  | .aload_n i => ex_lda lo i.val st
  | .istore i => ex_sti lo i st
  | .istore_n i => ex_sti lo i.val st
  | .lstore i => ex_stl lo i st
  | .lstore_n i => ex_stl lo i.val st
  | .astore i => ex_sta lo i st
  | .astore_n i => ex_sta lo i.val st
  | .iinc i _ => match lo[i]? with
    | some (some (.int x)) => if i < lo.length then some (ex_st1 lo i (.int (x + k)), st) else none
    | _ => none
  | .iadd => ex_ii (fun x y => x + y) lo st
  | .isub => ex_ii (fun x y => x - y) lo st
  | .imul => ex_ii (fun x y => x * y) lo st
  | .iand => ex_ii (fun x y => x &&& y) lo st
  | .ior => ex_ii (fun x y => x ||| y) lo st
  | .ixor => ex_ii (fun x y => x ^^^ y) lo st
  | .ishl => ex_ii (fun x y => x <<< (y &&& 31)) lo st
  | .ishr => ex_ii (fun x y => x >>> (y &&& 31)) lo st
  | .iushr => ex_ii (fun x y => (x.toUInt32 >>> (y.toUInt32 &&& Int32.toUInt32 31)).toInt32) lo st
  | .idiv => match st with
    | .int y :: .int x :: st => if y = 0 then none else some (lo, .int (x / y) :: st)
    | _ => none
  | .irem => match st with
    | .int y :: .int x :: st => if y = 0 then none else some (lo, .int (x - x / y * y) :: st)
    | _ => none
  | .ladd => ex_ll (fun x y => x + y) lo st
  | .lsub => ex_ll (fun x y => x - y) lo st
  | .lmul => ex_ll (fun x y => x * y) lo st
  | .land => ex_ll (fun x y => x &&& y) lo st
  | .lor => ex_ll (fun x y => x ||| y) lo st
  | .ldiv => match st with
    | .long y :: .long x :: st => if y = 0 then none else some (lo, .long (x / y) :: st)
    | _ => none
  | .lrem => match st with
    | .long y :: .long x :: st => if y = 0 then none else some (lo, .long (x - x / y * y) :: st)
    | _ => none
  | .lshl => match st with
    | .int y :: .long x :: st => some (lo, .long (x <<< (y.toInt64 &&& 63)) :: st)
    | _ => none
  | .lushr => match st with
    | .int y :: .long x :: st => some (lo, .long (x.toUInt64 >>> (y.toInt64.toUInt64 &&& Int64.toUInt64 63)).toInt64 :: st)
    | _ => none
  | .lcmp => match st with
    | .long y :: .long x :: st => some (lo, .int (lg_cmp x y) :: st)
    | _ => none
  | .i2l => match st with
    | .int x :: st => some (lo, .long x.toInt64 :: st)
    | _ => none
  | .l2i => match st with
    | .long x :: st => some (lo, .int x.toInt32 :: st)
    | _ => none
  | .i2b => match st with
    | .int x :: st => some (lo, .int x.toInt8.toInt32 :: st)
    | _ => none
  | .i2c => match st with
    | .int x :: st => some (lo, .int (x.toUInt32 % 65536).toInt32 :: st)
    | _ => none
  | .dup => match st with
    | v :: st => if v.category = 1 then some (lo, v :: v :: st) else none
    | _ => none
  | .dup2 => match st with
    | v :: u :: st => if v.category = 1 ∧ u.category = 1 then some (lo, v :: u :: v :: u :: st) else none
    | _ => none
  | .pop => match st with
    | v :: st => if v.category = 1 then some (lo, st) else none
    | _ => none
  | _ => none
abbrev ex_in (j : Int32) (n : Nat) : Prop := ¬ j < 0 ∧ j.toNatClampNeg < n
/-- the classes' numbers of slots -/
def ex_N (ci : Nat) : Nat := match vwCl[ci]? with
  | some q => q.2.2
  | none => 0
/-- a static's value: a thing, what a thing holds, a number -/
def ex_stv (w : ex_W) (q : Nat × Nat × Int32) : Value := match q.1 with
  | 0 => .ref q.2.1
  | 2 => va_rf (w.2.2.2 q.2.1 0)
  | _ => .int q.2.2
def ex_pv (w : ex_W) (a k t : Nat) : Value := match t with
  | 1 => .long (w.2.2.1 a k)
  | 2 => va_rf (w.2.2.2 a k)
  | _ => .int (w.2.1 a k)
/-- the arrays that are made -/
def ex_at (ty : FieldType) : Bool := match ty with
  | .int => true
  | .byte => true
  | .boolean => true
  | .long => true
  | _ => false
/-- what needs the world -/
def ex_heap (ro : Nat) (ins : Instr) (r : List Nat) (k : Int32) (st : List Value) (w : ex_W) : Option (List Value × ex_W) := match ins with
  | .getfield _ => match st with
    | .ref a :: st => match w.1.1[a]? with
      | some (.inl ci) => if ci = r.getD 0 0 ∧ (ci < 100 ∧ ro ≤ a ∨ 100 ≤ ci ∧ ¬ ro ≤ a) then some (ex_pv w a (r.getD 1 0) (r.getD 2 0) :: st, w) else none
      | _ => none
    | _ => none
  | .putfield _ => match r.getD 2 0 with
    | 1 => match st with
      | .long x :: .ref a :: st => match w.1.1[a]? with
        | some (.inl ci) => if ci = r.getD 0 0 ∧ ro ≤ a then some (st, (w.1, w.2.1, ex_set w.2.2.1 a (va_up (w.2.2.1 a) (r.getD 1 0) x), w.2.2.2)) else none
        | _ => none
      | _ => none
    | 2 => match st with
      | .ref x :: .ref a :: st => match w.1.1[a]? with
        | some (.inl ci) => if ci = r.getD 0 0 ∧ ro ≤ a then some (st, (w.1, w.2.1, w.2.2.1, ex_set w.2.2.2 a (va_up (w.2.2.2 a) (r.getD 1 0) (some x)))) else none
        | _ => none
      | _ => none
    | 3 => match st with
      | .int x :: .ref a :: st => match w.1.1[a]? with
        | some (.inl ci) => if ci = r.getD 0 0 ∧ ro ≤ a then (if x = 0 ∨ x = 1 then some (st, (w.1, ex_set w.2.1 a (va_up (w.2.1 a) (r.getD 1 0) x), w.2.2.1, w.2.2.2)) else none) else none
        | _ => none
      | _ => none
    | _ => match st with
      | .int x :: .ref a :: st => match w.1.1[a]? with
        | some (.inl ci) => if ci = r.getD 0 0 ∧ ro ≤ a then some (st, (w.1, ex_set w.2.1 a (va_up (w.2.1 a) (r.getD 1 0) x), w.2.2.1, w.2.2.2)) else none
        | _ => none
      | _ => none
  | .arraylength => match st with
    | .ref a :: st => match w.1.1[a]? with
      | some (.inr q) => if ¬ ro ≤ a ∨ ex_at q.1 = true then some (.int (nI q.2) :: st, w) else none
      | _ => none
    | _ => none
  | .iaload => match st with
    | .int j :: .ref a :: st => match w.1.1[a]? with
      | some (.inr (.int, n)) => if ex_in j n then some (.int (w.2.1 a j.toNatClampNeg) :: st, w) else none
      | _ => none
    | _ => none
  | .baload => match st with
    | .int j :: .ref a :: st => match w.1.1[a]? with
      | some (.inr (.byte, n)) => if ex_in j n then some (.int (w.2.1 a j.toNatClampNeg) :: st, w) else none
      | some (.inr (.boolean, n)) => if ex_in j n then some (.int (w.2.1 a j.toNatClampNeg) :: st, w) else none
      | _ => none
    | _ => none
  | .laload => match st with
    | .int j :: .ref a :: st => match w.1.1[a]? with
      | some (.inr (.long, n)) => if ex_in j n then some (.long (w.2.2.1 a j.toNatClampNeg) :: st, w) else none
      | _ => none
    | _ => none
  | .aaload => match st with
    | .int j :: .ref a :: st => match w.1.1[a]? with
      | some (.inr (.object _, n)) => if ex_in j n ∧ ¬ ro ≤ a then some (va_rf (w.2.2.2 a j.toNatClampNeg) :: st, w) else none
      | _ => none
    | _ => none
  | .iastore => match st with
    | .int x :: .int j :: .ref a :: st => match w.1.1[a]? with
      | some (.inr (.int, n)) => if ex_in j n ∧ ro ≤ a then some (st, (w.1, ex_set w.2.1 a (va_up (w.2.1 a) j.toNatClampNeg x), w.2.2.1, w.2.2.2)) else none
      | _ => none
    | _ => none
  | .bastore => match st with
    | .int x :: .int j :: .ref a :: st => match w.1.1[a]? with
      | some (.inr (.byte, n)) => if ex_in j n ∧ ro ≤ a then some (st, (w.1, ex_set w.2.1 a (va_up (w.2.1 a) j.toNatClampNeg (vp_nar .byte x)), w.2.2.1, w.2.2.2)) else none
      | some (.inr (.boolean, n)) => if ex_in j n ∧ ro ≤ a then some (st, (w.1, ex_set w.2.1 a (va_up (w.2.1 a) j.toNatClampNeg (vp_nar .boolean x)), w.2.2.1, w.2.2.2)) else none
      | _ => none
    | _ => none
  | .lastore => match st with
    | .long x :: .int j :: .ref a :: st => match w.1.1[a]? with
      | some (.inr (.long, n)) => if ex_in j n ∧ ro ≤ a then some (st, (w.1, w.2.1, ex_set w.2.2.1 a (va_up (w.2.2.1 a) j.toNatClampNeg x), w.2.2.2)) else none
      | _ => none
    | _ => none
  | .newarray t => match st with
    | .int n :: st => if ¬ n < 0 ∧ n.toNatClampNeg ≤ 65536 then some (.ref w.1.1.length :: st, ((w.1.1 ++ [.inr (newarray.typeOf t, n.toNatClampNeg)], w.1.2.1 + 1, w.1.2.2 + n.toNatClampNeg), ex_set w.2.1 w.1.1.length (fun _ => 0), ex_set w.2.2.1 w.1.1.length (fun _ => 0), w.2.2.2)) else none
    | _ => none
  | .new _ => some (.ref w.1.1.length :: st, ((w.1.1 ++ [.inl (r.getD 1 0)], w.1.2.1 + 1, w.1.2.2 + ex_N (r.getD 1 0)), ex_set w.2.1 w.1.1.length (fun _ => 0), ex_set w.2.2.1 w.1.1.length (fun _ => 0), ex_set w.2.2.2 w.1.1.length (fun _ => none)))
  | .getstatic _ => some (ex_stv w (r.getD 0 0, r.getD 1 0, k) :: st, w)
  | .ldc _ => some (.int k :: st, w)
  | .ldc_w _ => some (.int k :: st, w)
  | .ldc2_w _ => some (.long (lN (r.getD 0 0)) :: st, w)
  | _ => none
def ex_if {α : Type} (c : ClassFile.Cond) (x y : Int32) (jump fall : α) : α := match c with
  | .eq => if x = y then jump else fall
  | .ne => if x = y then fall else jump
  | .lt => if x < y then jump else fall
  | .ge => if x < y then fall else jump
  | .gt => if y < x then jump else fall
  | .le => if y < x then fall else jump
/-- does what is returned fit -/
abbrev ex_fit (ret : Option FieldType) (v : Int32) : Prop := ret = some .int ∨ ((ret = some .boolean ∧ (v = 0 ∨ v = 1)) ∨ (ret = some .byte ∧ v.toInt8.toInt32 = v) ∨ (ret = some .char ∧ (v.toUInt32 % 65536).toInt32 = v))
def ex_fin (ret : Option FieldType) (row : ex_R) (st : List Value) (w : ex_W) : Option ex_A := match row.2.2.1 with
  | .return_ => match st with
    | [] => if ret = none then some (.inl none, w) else none
    | _ => none
  | .ireturn => match st with
    | [.int v] => if ex_fit ret v then some (.inl (some (.int v)), w) else none
    | _ => none
  | .lreturn => match st with
    | [.long v] => if ret = some .long then some (.inl (some (.long v)), w) else none
    | _ => none
  | .new _ => match st with
    | [] => if row.2.2.2.1.getD 0 0 = 1 then some (.inr (row.2.2.2.1.getD 1 0), ((w.1.1, w.1.2.1 + 1, w.1.2.2 + 6), w.2)) else none
    | _ => none
  | _ => none
def ex_end (ret : Option FieldType) (e : Option ex_E) : Option ex_A := match e with
  | some (row :: _, _, st, w) => ex_fin ret row st w
  | _ => none
/-- the locals at a method's entry -/
def ex_sl (args : List Value) : ex_Lo := args.flatMap fun v => if v.category = 2 then [some v, none] else [some v]
def ex_ent (n : Nat) (args : List Value) : ex_Lo := ex_sl args ++ List.replicate (n - (ex_sl args).length) none
abbrev ex_S : Type := Nat → List (List ex_R) → List ex_R → ex_Lo → List Value → ex_W → Option ex_E
/-- a method's run -/
def ex_me (mt : Nat → Option ex_M) (self : ex_S) (d mi : Nat) (args : List Value) (w : ex_W) : Option ex_A := match mt mi with
  | none => none
  | some M => if (ex_sl args).length ≤ M.2.2.1 then ex_end M.2.2.2.1 (self d M.2.2.2.2.2.1 (M.2.2.2.2.2.1.getD 0 []) (ex_ent M.2.2.1 args) [] w) else none
/-- behind a call -/
def ex_ret (self : ex_S) (d : Nat) (cd : List (List ex_R)) (L : List ex_R) (lo : ex_Lo) (rest : List Value) (x : Option ex_A) : Option ex_E := match x with
  | some (.inl none, w) => self d cd L lo rest w
  | some (.inl (some v), w) => self d cd L lo (v :: rest) w
  | _ => none
/-- behind a call in a method that catches: what it throws is looked up in rs, pairs of a class's number and a block -/
def ex_cat (cd : List (List ex_R)) (e : Nat) (w : ex_W) : List Nat → Option ex_E
  | x :: b :: rs => if x = e then (match cd.getD b [] with
      | [_, rc, rr] => some ([rr], [], [.int rc.2.2.2.2], w)
      | _ => none) else ex_cat cd e w rs
  | _ => none
def ex_retC (self : ex_S) (d : Nat) (cd : List (List ex_R)) (L : List ex_R) (lo : ex_Lo) (rest : List Value) (rs : List Nat) (x : Option ex_A) : Option ex_E := match x with
  | some (.inr e, w) => ex_cat cd e w rs
  | y => ex_ret self d cd L lo rest y
/-- is the first argument an object of that class -/
def ex_rcv (ro : Nat) (w : ex_W) (ci : Nat) (args : List Value) : Bool := match args with
  | .ref a :: _ => (match w.1.1[a]? with
    | some (.inl cj) => decide (cj = ci ∧ (ci < 100 ∧ ro ≤ a ∨ 100 ≤ ci ∧ ¬ ro ≤ a))
    | _ => false)
  | _ => false
/-- calls: kind, method, how many are popped, class of the receiver .. -/
def ex_inv (ro : Nat) (mt : Nat → Option ex_M) (self : ex_S) (d : Nat) (cd : List (List ex_R)) (r : List Nat) (L : List ex_R) (lo : ex_Lo) (st : List Value) (w : ex_W) : Option ex_E := match r with
  | 6 :: _ => match st with
    | .ref _ :: st => if (st.map fun v => v.category).sum ≤ 8 then self d cd L lo st w else none
    | _ => none
  | 7 :: _ => match st with
    | .int n :: .int dp :: .ref b :: .int sp :: .ref a :: st => match w.1.1[a]? with
      | some (.inr (.int, n0)) => match w.1.1[b]? with
        | some (.inr (.int, n1)) => if (ro ≤ b ∧ (st.map fun v => v.category).sum ≤ 8) ∧ ¬ sp < 0 ∧ ¬ dp < 0 ∧ ¬ n < 0 ∧ sp.toNatClampNeg + n.toNatClampNeg ≤ n0 ∧ dp.toNatClampNeg + n.toNatClampNeg ≤ n1 then self d cd L lo st (w.1, ex_set w.2.1 b (va_cpy (w.2.1 a) (w.2.1 b) sp.toNatClampNeg dp.toNatClampNeg n.toNatClampNeg), w.2.2.1, w.2.2.2) else none
        | _ => none
      | _ => none
    | _ => none
  | k :: mi :: np :: ci :: rs => match d with
    | 0 => none
    | d' + 1 => if (np ≤ st.length ∧ ((st.drop np).map fun v => v.category).sum ≤ 8) ∧ (k = 2 ∨ k = 3 ∨ k = 8 ∨ ex_rcv ro w ci (st.take np).reverse = true) then
        (if k = 9 then ex_retC self (d' + 1) cd L lo (st.drop np) rs (ex_me mt self d' mi (st.take np).reverse w) else ex_ret self (d' + 1) cd L lo (st.drop np) (ex_me mt self d' mi (st.take np).reverse w)) else none
  | _ => none
/-- one of the enum's constants -/
def ex_isw (ro : Nat) (w : ex_W) (x : Nat) : Bool := decide (¬ ro ≤ x) && (match w.1.1[x]? with
  | some (.inl 100) => true
  | _ => false)
/-- one instruction -/
def ex_body (ro : Nat) (mt : Nat → Option ex_M) (self : ex_S) : ex_S := fun d cd L lo st w => match L with
  | [] => none
  | row :: L => match row.2.2.1 with
    | .goto _ => self d cd (cd.getD (row.2.2.2.1.getD 0 0) []) lo st w
    | .ifCond c _ => match st with
      | .int x :: st => ex_if c x 0 (self d cd (cd.getD (row.2.2.2.1.getD 0 0) []) lo st w) (self d cd L lo st w)
      | _ => none
    | .if_icmp c _ => match st with
      | .int y :: .int x :: st => ex_if c x y (self d cd (cd.getD (row.2.2.2.1.getD 0 0) []) lo st w) (self d cd L lo st w)
      | _ => none
    | .if_acmp c _ => match st with
      | .ref y :: .ref x :: st => if ex_isw ro w x = true ∧ ex_isw ro w y = true then (match c with
        | .eq => if x = y then self d cd (cd.getD (row.2.2.2.1.getD 0 0) []) lo st w else self d cd L lo st w
        | .ne => if x = y then self d cd L lo st w else self d cd (cd.getD (row.2.2.2.1.getD 0 0) []) lo st w) else none
      | _ => none
    | .tableswitch _ l h _ => match st with
      | .int x :: st => if x.toInt < l ∨ h < x.toInt then self d cd (cd.getD (row.2.2.2.1.getD 0 0) []) lo st w else self d cd (cd.getD (row.2.2.2.1.getD (1 + (x.toInt - l).toNat) 0) []) lo st w
      | _ => none
    | .ireturn => some (row :: L, lo, st, w)
    | .lreturn => some (row :: L, lo, st, w)
    | .return_ => some (row :: L, lo, st, w)
    | .invokevirtual _ => ex_inv ro mt self d cd row.2.2.2.1 L lo st w
    | .invokestatic _ => ex_inv ro mt self d cd row.2.2.2.1 L lo st w
    | .invokespecial _ => ex_inv ro mt self d cd row.2.2.2.1 L lo st w
    | .new _ => match row.2.2.2.1.getD 0 0 with
      | 1 => some (row :: L, lo, st, w)
      | _ => match ex_heap ro row.2.2.1 row.2.2.2.1 row.2.2.2.2 st w with
        | some (st, w) => self d cd L lo st w
        | none => none
    | ins => match ex_pure ins row.2.2.2.2 lo st with
      | some (lo, st) => self d cd L lo st w
      | none => match ex_heap ro ins row.2.2.2.1 row.2.2.2.2 st w with
        | some (st, w) => self d cd L lo st w
        | none => none
def ex_run (ro : Nat) (mt : Nat → Option ex_M) : Nat → ex_S
  | 0 => fun _ _ _ _ _ _ => none
  | n + 1 => ex_body ro mt (ex_run ro mt n)
