/-! the constructors: rules for rows that make things -/
def nw {α : Type} [OfNat α 0] (I : Nat → Nat → α) (a : Nat) : Nat → Nat → α := ex_set I a (fun _ => 0)
def nr (R : Nat → Nat → Option Nat) (a : Nat) : Nat → Nat → Option Nat := ex_set R a (fun _ => none)
section RN
variable {d m q c s pc len : Nat} {M : ex_M} {L : List ex_R} {lo : ex_Lo} {st : List Value} {S : List ex_Sh} {I : Nat → Nat → Int32} {J : Nat → Nat → Int64} {R : Nat → Nat → Option Nat} {x : Option Value ⊕ Nat} {w' : ex_W}
/-- one row -/
theorem tt_1 {L1 : List ex_R} {lo1 : ex_Lo} {st1 : List Value} {w w1 : ex_W} (h : ∀ n, ex_run pg_ro pg_mt (n + 1) d M.2.2.2.2.2.1 L lo st w = ex_run pg_ro pg_mt n d M.2.2.2.2.2.1 L1 lo1 st1 w1) (g : tt d M L1 lo1 st1 w1 x w') : tt d M L lo st w x w' := tt_S 1 lo1 st1 w1 h g
theorem tn_arr {ty : ArrayType} {r : List Nat} {k : Int32} (hl : S.length = m) (hq : q ≤ 65536) (g : tt d M L lo (.ref m :: st) ((S ++ [.inr (newarray.typeOf ty, q)], c + 1, s + q), nw I m, nw J m, R) x w') : tt d M ((pc, len, .newarray ty, r, k) :: L) lo (.int (nI q) :: st) ((S, c, s), I, J, R) x w' := by
  refine tt_1 (fun n => ?_) g
  have n0 : ¬ nI q < 0 := negN (by omega)
  have cl : (nI q).toNatClampNeg = q := clN (by omega)
  have e : ex_heap pg_ro (.newarray ty) r k (.int (nI q) :: st) ((S, c, s), I, J, R) = some (.ref m :: st, ((S ++ [.inr (newarray.typeOf ty, q)], c + 1, s + q), nw I m, nw J m, R)) := by
    show (if ¬ nI q < 0 ∧ (nI q).toNatClampNeg ≤ 65536 then some (Value.ref S.length :: st, ((S ++ [Sum.inr (newarray.typeOf ty, (nI q).toNatClampNeg)], c + 1, s + (nI q).toNatClampNeg), ex_set I S.length (fun _ => 0), ex_set J S.length (fun _ => 0), R)) else none) = _
    rw [cl, if_pos ⟨n0, hq⟩, hl]
    rfl
  show (match ex_heap pg_ro (.newarray ty) r k (.int (nI q) :: st) ((S, c, s), I, J, R) with
    | some (st, w) => ex_run pg_ro pg_mt n d M.2.2.2.2.2.1 L lo st w
    | none => none) = _
  rw [e]
theorem tn_new {i ci y1 y2 y3 : Nat} {k : Int32} (hl : S.length = m) (hN : ex_N ci = q) (g : tt d M L lo (.ref m :: st) ((S ++ [.inl ci], c + 1, s + q), nw I m, nw J m, nr R m) x w') : tt d M ((pc, len, .new i, [0, ci, y1, y2, y3], k) :: L) lo st ((S, c, s), I, J, R) x w' := by
  refine tt_1 (fun n => ?_) g
  show ex_run pg_ro pg_mt n d M.2.2.2.2.2.1 L lo (.ref S.length :: st) ((S ++ [.inl ci], c + 1, s + ex_N ci), ex_set I S.length (fun _ => 0), ex_set J S.length (fun _ => 0), ex_set R S.length (fun _ => none)) = _
  rw [hl, hN]
  rfl
theorem tn_pr {i a b ci f y1 y2 : Nat} {k : Int32} (ha : S[a]? = some (.inl ci)) (hro : 58 ≤ a) (g : tt d M L lo st ((S, c, s), I, J, up R a f (some b)) x w') : tt d M ((pc, len, .putfield i, [ci, f, 2, y1, y2], k) :: L) lo (.ref b :: .ref a :: st) ((S, c, s), I, J, R) x w' := by
  refine tt_1 (fun n => ?_) g
  have e : ex_heap pg_ro (.putfield i) [ci, f, 2, y1, y2] k (.ref b :: .ref a :: st) ((S, c, s), I, J, R) = some (st, ((S, c, s), I, J, up R a f (some b))) := by
    show (match S[a]? with
        | some (.inl cj) => if cj = ci ∧ pg_ro ≤ a then some (st, ((S, c, s), I, J, ex_set R a (va_up (R a) f (some b)))) else none
        | _ => none) = _
    rw [ha]
    show (if ci = ci ∧ pg_ro ≤ a then some (st, ((S, c, s), I, J, ex_set R a (va_up (R a) f (some b)))) else none) = _
    rw [if_pos ⟨rfl, hro⟩]
    rfl
  show (match ex_heap pg_ro (.putfield i) [ci, f, 2, y1, y2] k (.ref b :: .ref a :: st) ((S, c, s), I, J, R) with
    | some (st, w) => ex_run pg_ro pg_mt n d M.2.2.2.2.2.1 L lo st w
    | none => none) = _
  rw [e]
theorem tn_pi {i a ci f y1 y2 : Nat} {v k : Int32} (ha : S[a]? = some (.inl ci)) (hro : 58 ≤ a) (g : tt d M L lo st ((S, c, s), up I a f v, J, R) x w') : tt d M ((pc, len, .putfield i, [ci, f, 0, y1, y2], k) :: L) lo (.int v :: .ref a :: st) ((S, c, s), I, J, R) x w' := by
  refine tt_1 (fun n => ?_) g
  have e : ex_heap pg_ro (.putfield i) [ci, f, 0, y1, y2] k (.int v :: .ref a :: st) ((S, c, s), I, J, R) = some (st, ((S, c, s), up I a f v, J, R)) := by
    show (match S[a]? with
        | some (.inl cj) => if cj = ci ∧ pg_ro ≤ a then some (st, ((S, c, s), ex_set I a (va_up (I a) f v), J, R)) else none
        | _ => none) = _
    rw [ha]
    show (if ci = ci ∧ pg_ro ≤ a then some (st, ((S, c, s), ex_set I a (va_up (I a) f v), J, R)) else none) = _
    rw [if_pos ⟨rfl, hro⟩]
    rfl
  show (match ex_heap pg_ro (.putfield i) [ci, f, 0, y1, y2] k (.int v :: .ref a :: st) ((S, c, s), I, J, R) with
    | some (st, w) => ex_run pg_ro pg_mt n d M.2.2.2.2.2.1 L lo st w
    | none => none) = _
  rw [e]
theorem tn_pb {i a ci f y1 y2 : Nat} {v k : Int32} (ha : S[a]? = some (.inl ci)) (hro : 58 ≤ a) (hv : v = 0 ∨ v = 1) (g : tt d M L lo st ((S, c, s), up I a f v, J, R) x w') : tt d M ((pc, len, .putfield i, [ci, f, 3, y1, y2], k) :: L) lo (.int v :: .ref a :: st) ((S, c, s), I, J, R) x w' := by
  refine tt_1 (fun n => ?_) g
  have e : ex_heap pg_ro (.putfield i) [ci, f, 3, y1, y2] k (.int v :: .ref a :: st) ((S, c, s), I, J, R) = some (st, ((S, c, s), up I a f v, J, R)) := by
    show (match S[a]? with
        | some (.inl cj) => if cj = ci ∧ pg_ro ≤ a then (if v = 0 ∨ v = 1 then some (st, ((S, c, s), ex_set I a (va_up (I a) f v), J, R)) else none) else none
        | _ => none) = _
    rw [ha]
    show (if ci = ci ∧ pg_ro ≤ a then (if v = 0 ∨ v = 1 then some (st, ((S, c, s), ex_set I a (va_up (I a) f v), J, R)) else none) else none) = _
    rw [if_pos ⟨rfl, hro⟩, if_pos hv]
    rfl
  show (match ex_heap pg_ro (.putfield i) [ci, f, 3, y1, y2] k (.int v :: .ref a :: st) ((S, c, s), I, J, R) with
    | some (st, w) => ex_run pg_ro pg_mt n d M.2.2.2.2.2.1 L lo st w
    | none => none) = _
  rw [e]
end RN
