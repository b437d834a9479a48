/-! The worlds in which the law runs (lists by wip/whole/rules.py), judgements and their rules -/
abbrev KT : Type := Nat × Option Nat × List ex_Sh × (Nat → Nat → Option Nat)
/-- the things behind the script: old ones and the class's (1 to 96) -/
def pg_S : List ex_Sh := [.inl 100, .inl 100, .inl 100, .inl 100, .inl 100, .inl 100, .inl 100, .inl 100, .inl 100, .inl 100, .inl 100, .inl 100, .inl 100, .inl 100, .inl 100, .inl 100, .inl 100, .inl 101, .inl 101, .inl 101, .inl 101, .inl 101, .inl 101, .inl 101, .inl 101, .inl 101, .inl 101, .inl 101, .inl 101, .inl 101, .inl 101, .inl 101, .inl 101, .inl 101, .inr (.byte, 5), .inr (.byte, 5), .inr (.byte, 4), .inr (.byte, 4), .inr (.byte, 4), .inr (.byte, 5), .inr (.byte, 4), .inr (.byte, 4), .inr (.byte, 3), .inr (.byte, 3), .inr (.byte, 5), .inr (.byte, 4), .inr (.byte, 2), .inr (.byte, 2), .inr (.byte, 3), .inr (.byte, 3), .inr (.byte, 0), .inr ((.object "PileTricks$Word"), 17), .inr (.int, 4), .inr (.int, 4), .inr (.int, 4), .inl 999, .inl 999, .inl 8, .inr (.int, 60), .inl 6, .inr (.byte, 500), .inl 2, .inr (.int, 4), .inr (.boolean, 4), .inr (.int, 8), .inr (.int, 8), .inl 3, .inr (.int, 500), .inr (.int, 8), .inr (.int, 100), .inr (.boolean, 7), .inr (.int, 6), .inr (.int, 50), .inl 0, .inr (.int, 180), .inr (.int, 180), .inr (.int, 18), .inr (.int, 6), .inl 4, .inr (.int, 8), .inr (.int, 8), .inr (.int, 48), .inr (.int, 480), .inl 7, .inl 1, .inr (.int, 420), .inl 5, .inr (.int, 60), .inr (.int, 60), .inr (.int, 60), .inr (.int, 20), .inl 5, .inr (.int, 60), .inr (.int, 60), .inr (.int, 60), .inr (.int, 20)]
def pg_RL : List (List (Option Nat)) := [[], [some 18], [some 19], [some 20], [some 21], [some 22], [some 23], [some 24], [some 25], [some 26], [some 27], [some 28], [some 29], [some 30], [some 31], [some 32], [some 33], [some 34], [some 35], [some 36], [some 37], [some 38], [some 39], [some 40], [some 41], [some 42], [some 43], [some 44], [some 45], [some 46], [some 47], [some 48], [some 49], [some 50], [some 51], [], [], [], [], [], [], [], [], [], [], [], [], [], [], [], [], [], [some 1, some 2, some 3, some 4, some 5, some 6, some 7, some 8, some 9, some 10, some 11, some 12, some 13, some 14, some 15, some 16, some 17], [], [], [], [], [], [some 60, some 62, some 74, some 79, some 84, some 85, some 87, some 92, some 59], [], [], [], [some 60, some 67, some 63, some 64, some 65, some 66], [], [], [], [], [some 60, some 68, some 69, some 70, some 71, some 72, some 73], [], [], [], [], [], [], [some 75, some 76, some 77, some 78], [], [], [], [], [some 80, some 81, some 82, some 83], [], [], [], [], [some 79, some 74], [some 79, some 74, some 86], [], [some 88, some 89, some 90, some 91], [], [], [], [], [some 93, some 94, some 95, some 96], [], [], [], []]
/-- the model's things (97 to 132) -/
def pg_S2 : List ex_Sh := [.inl 9, .inr (.int, 8), .inr (.int, 8), .inr (.int, 8), .inr (.int, 1300), .inr (.int, 500), .inr (.int, 2), .inr (.int, 8), .inr (.int, 8), .inr (.int, 8), .inr (.int, 1300), .inr (.int, 650), .inr (.boolean, 9), .inr (.int, 60), .inr (.int, 60), .inr (.int, 6), .inr (.int, 6), .inr (.int, 6), .inr (.int, 650), .inr (.int, 60), .inr (.int, 60), .inr (.int, 5), .inr (.int, 5), .inr (.int, 60), .inr (.int, 60), .inr (.int, 60), .inr (.int, 60), .inr (.int, 60), .inr (.int, 1200), .inr (.int, 1200), .inr (.int, 60), .inr (.int, 60), .inr (.int, 60), .inr (.int, 60), .inr (.int, 1200), .inr (.int, 1200)]
def pg_RM : List (Option Nat) := [none, none, none, none, none, none, some 98, some 99, some 100, some 101, some 102, none, none, none, some 103, none, none, none, none, none, none, none, none, none, none, none, none, none, none, none, none, none, some 104, some 105, some 106, some 107, some 108, some 109, some 110, some 111, some 112, some 113, some 114, some 115, some 116, some 117, some 118, some 119, none, none, some 120, some 121, none, some 122, some 123, some 124, some 125, some 126, some 127, none, none, some 128, some 129, some 130, some 131, some 132]
def pg_R (fm : Option Nat) (T : Nat → Nat → Option Nat) (wd : Nat) : Nat → Nat → Option Nat := fun a k => if a = 60 then (if k = 6 then some wd else if k = 0 then some 61 else none) else if a = 56 then (if k = 0 then fm else none) else if a ≤ 96 then (pg_RL.getD a []).getD k none else T a k
def pg_R2 (T : Nat → Nat → Option Nat) : Nat → Nat → Option Nat := fun a k => if a = 97 then pg_RM.getD k none else T a k
/-- a world: the script's length, the formatter's, what comes behind the class's things; cells and slots made, ints, longs, the tape's word -/
def cw (κ : KT) (cs : Nat × Nat) (I : Nat → Nat → Int32) (J : Nat → Nat → Int64) (wd : Nat) : ex_W := ((.inr (.int, κ.1) :: (pg_S ++ κ.2.2.1), cs), I, J, pg_R κ.2.1 κ.2.2.2 wd)
/-- with the model's things -/
def km (κ : KT) : KT := (κ.1, κ.2.1, pg_S2 ++ κ.2.2.1, pg_R2 κ.2.2.2)
/-- with the law's own row -/
def kl (κ : KT) : KT := (κ.1, κ.2.1, [.inr (.long, 1)], κ.2.2.2)
/-- one number set -/
def up {α : Type} (I : Nat → Nat → α) (a k : Nat) (v : α) : Nat → Nat → α := ex_set I a (va_up (I a) k v)
/-- a loop with so much fuel -/
def fx {α : Type} (z : α) (F : α → α) : Nat → α
  | 0 => z
  | n + 1 => F (fx z F n)
/-- fuel -/
def FU : Nat := 1000000000000
def tt (d : Nat) (M : ex_M) (L : List ex_R) (lo : ex_Lo) (st : List Value) (w : ex_W) (x : Option Value ⊕ Nat) (w' : ex_W) : Prop := ∃ k : Nat, ∀ n : Nat, ex_end M.2.2.2.1 (ex_run pg_ro pg_mt (n + k) d M.2.2.2.2.2.1 L lo st w) = some (x, w')
def tm (d mi : Nat) (as : List Value) (w : ex_W) (x : Option Value ⊕ Nat) (w' : ex_W) : Prop := ∃ k : Nat, ∀ n : Nat, ex_me pg_mt (ex_run pg_ro pg_mt (n + k)) d mi as w = some (x, w')
section TT
variable {d : Nat} {M : ex_M} {L L1 L2 : List ex_R} {lo lo1 lo2 : ex_Lo} {st st1 st2 : List Value} {w w1 w2 w' : ex_W} {x : Option Value ⊕ Nat} {R S : Type} {r : R}
theorem tm_of {mi : Nat} {as : List Value} (M : ex_M) (hM : pg_mt mi = some M) (hl : (ex_sl as).length ≤ M.2.2.1) (h : tt d M (M.2.2.2.2.2.1.getD 0 []) (ex_ent M.2.2.1 as) [] w x w') : tm d mi as w x w' := by
  obtain ⟨k, h⟩ := h
  refine ⟨k, fun n => ?_⟩
  rw [ex_me, hM]
  dsimp only
  rw [if_pos hl]
  exact h n
/-- steps -/
theorem tt_S (k : Nat) (lo1 : ex_Lo) (st1 : List Value) (w1 : ex_W) (h : ∀ n, ex_run pg_ro pg_mt (n + k) d M.2.2.2.2.2.1 L lo st w = ex_run pg_ro pg_mt n d M.2.2.2.2.2.1 L1 lo1 st1 w1) (g : tt d M L1 lo1 st1 w1 x w') : tt d M L lo st w x w' := by
  obtain ⟨k1, g⟩ := g
  refine ⟨k1 + k, fun n => ?_⟩
  rw [← Nat.add_assoc, h]
  exact g n
/-- steps, so that the kernel doesn't compare the two ends before it walks (it compares from the last argument on) -/
theorem tt_J (k : Nat) (lo1 : ex_Lo) (st1 : List Value) (w1 : ex_W) (h : ∀ n, ex_body pg_ro pg_mt (ex_run pg_ro pg_mt (n + k)) d M.2.2.2.2.2.1 L lo st w = ex_run pg_ro pg_mt n d M.2.2.2.2.2.1 L1 lo1 st1 w1) (g : tt d M L1 lo1 st1 w1 x w') : tt d M L lo st w x w' := tt_S (k + 1) lo1 st1 w1 h g
/-- locals that are not needed -/
theorem tt_F (lo1 : ex_Lo) (hl : lo_leR lo1 lo) (g : tt d M L lo1 st w x w') : tt d M L lo st w x w' := by
  obtain ⟨k1, g⟩ := g
  exact ⟨k1, fun n => ex_mend (ex_mrun _ _ _ _ _ _ _ _ _ _ (lo_le_of _ _ hl)) (g n)⟩
/-- a branch -/
theorem tt_I (k : Nat) (lo1 : ex_Lo) (st1 : List Value) (w1 : ex_W) {c : Prop} {ic : Decidable c} {A B : Option R} (h : @ite (Option R) c ic A B = some r) (hs : ∀ n, ex_run pg_ro pg_mt (n + k) d M.2.2.2.2.2.1 L lo st w = @ite _ c ic (ex_run pg_ro pg_mt n d M.2.2.2.2.2.1 L1 lo1 st1 w1) (ex_run pg_ro pg_mt n d M.2.2.2.2.2.1 L2 lo1 st1 w1)) (g1 : A = some r → tt d M L1 lo1 st1 w1 x w') (g2 : B = some r → tt d M L2 lo1 st1 w1 x w') : tt d M L lo st w x w' := by
  by_cases hc : c
  · rw [if_pos hc] at h
    exact tt_S k lo1 st1 w1 (fun n => by rw [hs, if_pos hc]) (g1 h)
  · rw [if_neg hc] at h
    exact tt_S k lo1 st1 w1 (fun n => by rw [hs, if_neg hc]) (g2 h)
/-- a return -/
theorem tt_R (k : Nat) {a : R} (X : R → Option Value ⊕ Nat) (W : R → ex_W) (h : some a = some r) (hs : ∀ n, ex_end M.2.2.2.1 (ex_run pg_ro pg_mt (n + k) d M.2.2.2.2.2.1 L lo st w) = some (X a, W a)) : tt d M L lo st w (X r) (W r) := by
  cases h
  exact ⟨k, hs⟩
/-- a return of a number that must fit -/
theorem tt_B (k : Nat) {a : R} {v : Int32} {c : Prop} {ic : Decidable c} (X : R → Option Value ⊕ Nat) (W : R → ex_W) (h : @ite (Option R) c ic (some a) none = some r) (hf : c → ex_fit M.2.2.2.1 v) (hs : ∀ n, ex_end M.2.2.2.1 (ex_run pg_ro pg_mt (n + k) d M.2.2.2.2.2.1 L lo st w) = if ex_fit M.2.2.2.1 v then some (X a, W a) else none) : tt d M L lo st w (X r) (W r) := by
  by_cases hc : c
  · rw [if_pos hc] at h
    cases h
    exact ⟨k, fun n => by rw [hs, if_pos (hf hc)]⟩
  · rw [if_neg hc] at h
    cases h
/-- a call -/
theorem tt_C (k : Nat) (lo1 : ex_Lo) (rest : List Value) (w1 : ex_W) {mi : Nat} {as : List Value} {F : Option S} {A : S → Option R} {v : S → Option Value} {w2 : S → ex_W} (h : F.bind A = some r) (hs : ∀ n, ex_run pg_ro pg_mt (n + k) (d + 1) M.2.2.2.2.2.1 L lo st w = ex_ret (ex_run pg_ro pg_mt n) (d + 1) M.2.2.2.2.2.1 L1 lo1 rest (ex_me pg_mt (ex_run pg_ro pg_mt n) d mi as w1)) (hm : ∀ s, F = some s → tm d mi as w1 (.inl (v s)) (w2 s)) (g : ∀ s, A s = some r → tt (d + 1) M L1 lo1 ((v s).toList ++ rest) (w2 s) x w') : tt (d + 1) M L lo st w x w' := by
  cases F with
  | none => cases h
  | some s =>
    obtain ⟨k1, hm⟩ := hm s rfl
    obtain ⟨k2, g⟩ := g s h
    refine ⟨k1 + k2 + k, fun n => ?_⟩
    rw [← Nat.add_assoc, hs, show n + (k1 + k2) = n + k2 + k1 by omega, hm, show n + k2 + k1 = n + k1 + k2 by omega]
    have e : ∀ self : ex_S, ex_ret self (d + 1) M.2.2.2.2.2.1 L1 lo1 rest (some (.inl (v s), w2 s)) = self (d + 1) M.2.2.2.2.2.1 L1 lo1 ((v s).toList ++ rest) (w2 s) := by
      intro self
      cases v s with
      | none => rfl
      | some v => rfl
    rw [e]
    exact g (n + k1)
/-- a call of what always answers -/
theorem tt_K (k : Nat) (lo1 : ex_Lo) (rest : List Value) (w1 : ex_W) {mi : Nat} {as : List Value} {v : Option Value} (hs : ∀ n, ex_run pg_ro pg_mt (n + k) (d + 1) M.2.2.2.2.2.1 L lo st w = ex_ret (ex_run pg_ro pg_mt n) (d + 1) M.2.2.2.2.2.1 L1 lo1 rest (ex_me pg_mt (ex_run pg_ro pg_mt n) d mi as w1)) (hm : tm d mi as w1 (.inl v) w2) (g : tt (d + 1) M L1 lo1 (v.toList ++ rest) w2 x w') : tt (d + 1) M L lo st w x w' :=
  tt_C (R := Unit) (r := ()) (F := some ()) (A := fun _ => some ()) (v := fun _ => v) (w2 := fun _ => w2) k lo1 rest w1 rfl hs (fun _ _ => hm) (fun _ _ => g)
end TT
/-- one of the words -/
abbrev isw (x : Nat) : Prop := 1 ≤ x ∧ x ≤ 17
def xi : Int32 ⊕ Nat → Option Value ⊕ Nat
  | .inl v => .inl (some (.int v))
  | .inr e => .inr e
def xl : Int64 ⊕ Nat → Option Value ⊕ Nat
  | .inl v => .inl (some (.long v))
  | .inr e => .inr e
def xn : Unit ⊕ Nat → Option Value ⊕ Nat
  | .inl _ => .inl none
  | .inr e => .inr e
def xc {α : Type} (cs : Nat × Nat) : α ⊕ Nat → Nat × Nat
  | .inl _ => cs
  | .inr _ => (cs.1 + 1, cs.2 + 6)
def atf (f : Nat → Int32) (n : Nat) (i : Int32) : Int32 := if ex_in i n then f i.toNatClampNeg else 0
def putf (I : Nat → Nat → Int32) (a n : Nat) (i v : Int32) : Nat → Nat → Int32 := if ex_in i n then up I a i.toNatClampNeg v else I
def filf (I : Nat → Nat → Int32) (a n : Nat) (v : Int32) : Nat → Nat → Int32 := ex_set I a fun k => if k < n then v else I a k
def cpyf (I : Nat → Nat → Int32) (a b n : Nat) : Nat → Nat → Int32 := ex_set I b (va_cpy (I a) (I b) 0 0 n)
theorem nev {x v : Int32} {z : Int} (h : x ≠ v) (hv : v.toInt = z) : x.toInt ≠ z := fun e => h (Int32.toInt_inj.mp (e.trans hv.symm))
section TR
variable {d : Nat} {M : ex_M} {L L1 L2 : List ex_R} {lo : ex_Lo} {st : List Value} {w w' : ex_W} {x : Option Value ⊕ Nat} {R : Type} {r : R} {κ : KT} {cs : Nat × Nat} {I : Nat → Nat → Int32} {J : Nat → Nat → Int64} {W : Nat}
theorem isw_sh {y : Nat} (h : isw y) : (cw κ cs I J W).1.1[y]? = some (.inl 100) := by
  obtain ⟨h1, h2⟩ := h
  have : y = 1 ∨ y = 2 ∨ y = 3 ∨ y = 4 ∨ y = 5 ∨ y = 6 ∨ y = 7 ∨ y = 8 ∨ y = 9 ∨ y = 10 ∨ y = 11 ∨ y = 12 ∨ y = 13 ∨ y = 14 ∨ y = 15 ∨ y = 16 ∨ y = 17 := by omega
  rcases this with rfl | rfl | rfl | rfl | rfl | rfl | rfl | rfl | rfl | rfl | rfl | rfl | rfl | rfl | rfl | rfl | rfl <;> rfl
theorem isw_ro {y : Nat} (h : isw y) : ¬ pg_ro ≤ y := by
  have : pg_ro = 58 := rfl
  omega
theorem isw_is {y : Nat} (h : isw y) : ex_isw pg_ro (cw κ cs I J W) y = true := by
  unfold ex_isw
  rw [isw_sh h, decide_eq_true (isw_ro h)]
  rfl
/-- a word's number -/
theorem tt_V {pc len j p q y : Nat} {k : Int32} {A : Option R} (h : (if isw y then A else none) = some r) (g : A = some r → tt d M L lo (.int (I y 1) :: st) (cw κ cs I J W) x w') : tt d M ((pc, len, .getfield j, [100, 1, 0, p, q], k) :: L) lo (.ref y :: st) (cw κ cs I J W) x w' := by
  by_cases hc : isw y
  · rw [if_pos hc] at h
    refine tt_S 1 lo _ _ (fun n => ?_) (g h)
    show (match ex_heap pg_ro (.getfield j) [100, 1, 0, p, q] k (.ref y :: st) (cw κ cs I J W) with
        | some (st, w) => ex_run pg_ro pg_mt n d M.2.2.2.2.2.1 L lo st w
        | none => none) = _
    have : ex_heap pg_ro (.getfield j) [100, 1, 0, p, q] k (.ref y :: st) (cw κ cs I J W) = some (.int (I y 1) :: st, cw κ cs I J W) := by
      unfold ex_heap
      dsimp only
      rw [isw_sh hc]
      dsimp only
      rw [if_pos ⟨rfl, Or.inr ⟨by decide, isw_ro hc⟩⟩]
      rfl
    rw [this]
  · rw [if_neg hc] at h
    cases h
/-- the tape's word set -/
theorem tt_P {pc len j p q y : Nat} {k : Int32} (g : tt d M L lo st (cw κ cs I J y) x w') : tt d M ((pc, len, .putfield j, [6, 6, 2, p, q], k) :: L) lo (.ref y :: .ref 60 :: st) (cw κ cs I J W) x w' := by
  refine tt_S 1 lo _ _ (fun n => ?_) g
  have e : ex_set (pg_R κ.2.1 κ.2.2.2 W) 60 (va_up (pg_R κ.2.1 κ.2.2.2 W 60) 6 (some y)) = pg_R κ.2.1 κ.2.2.2 y := by
    funext a b
    unfold ex_set va_up pg_R
    by_cases ha : a = 60
    · by_cases hb : b = 6
      · simp [ha, hb]
      · simp [ha, hb]
    · simp [ha]
  show ex_run pg_ro pg_mt n d M.2.2.2.2.2.1 L lo st ((.inr (.int, κ.1) :: (pg_S ++ κ.2.2.1), cs), I, J, ex_set (pg_R κ.2.1 κ.2.2.2 W) 60 (va_up (pg_R κ.2.1 κ.2.2.2 W 60) 6 (some y))) = _
  rw [e]
  rfl
/-- are two words the same -/
theorem tt_Aeq {pc len y z : Nat} {o : Int} {b : Nat} {k : Int32} {A B : Option R} (h : (if isw y ∧ isw z then (if y = z then A else B) else none) = some r) (g1 : A = some r → tt d M (M.2.2.2.2.2.1.getD b []) lo st (cw κ cs I J W) x w') (g2 : B = some r → tt d M L lo st (cw κ cs I J W) x w') : tt d M ((pc, len, .if_acmp .eq o, [b], k) :: L) lo (.ref z :: .ref y :: st) (cw κ cs I J W) x w' := by
  by_cases hc : isw y ∧ isw z
  · rw [if_pos hc] at h
    by_cases e : y = z
    · rw [if_pos e] at h
      refine tt_S 1 lo _ _ (fun n => ?_) (g1 h)
      exact (if_pos (c := ex_isw pg_ro (cw κ cs I J W) y = true ∧ ex_isw pg_ro (cw κ cs I J W) z = true) ⟨isw_is hc.1, isw_is hc.2⟩).trans (if_pos e)
    · rw [if_neg e] at h
      refine tt_S 1 lo _ _ (fun n => ?_) (g2 h)
      exact (if_pos (c := ex_isw pg_ro (cw κ cs I J W) y = true ∧ ex_isw pg_ro (cw κ cs I J W) z = true) ⟨isw_is hc.1, isw_is hc.2⟩).trans (if_neg e)
  · rw [if_neg hc] at h
    cases h
theorem tt_Ane {pc len y z : Nat} {o : Int} {b : Nat} {k : Int32} {A B : Option R} (h : (if isw y ∧ isw z then (if y = z then A else B) else none) = some r) (g1 : A = some r → tt d M L lo st (cw κ cs I J W) x w') (g2 : B = some r → tt d M (M.2.2.2.2.2.1.getD b []) lo st (cw κ cs I J W) x w') : tt d M ((pc, len, .if_acmp .ne o, [b], k) :: L) lo (.ref z :: .ref y :: st) (cw κ cs I J W) x w' := by
  by_cases hc : isw y ∧ isw z
  · rw [if_pos hc] at h
    by_cases e : y = z
    · rw [if_pos e] at h
      refine tt_S 1 lo _ _ (fun n => ?_) (g1 h)
      exact (if_pos (c := ex_isw pg_ro (cw κ cs I J W) y = true ∧ ex_isw pg_ro (cw κ cs I J W) z = true) ⟨isw_is hc.1, isw_is hc.2⟩).trans (if_pos e)
    · rw [if_neg e] at h
      refine tt_S 1 lo _ _ (fun n => ?_) (g2 h)
      exact (if_pos (c := ex_isw pg_ro (cw κ cs I J W) y = true ∧ ex_isw pg_ro (cw κ cs I J W) z = true) ⟨isw_is hc.1, isw_is hc.2⟩).trans (if_neg e)
  · rw [if_neg hc] at h
    cases h
/-- one row of a switch -/
theorem tt_T {y : Int32} (v : Int32) {A B : Option R} (h : (if y = v then A else B) = some r) (hs : ∀ n, ex_run pg_ro pg_mt (n + 1) d M.2.2.2.2.2.1 L lo (.int v :: st) w = ex_run pg_ro pg_mt n d M.2.2.2.2.2.1 L1 lo st w) (g1 : A = some r → tt d M L1 lo st w x w') (g2 : y ≠ v → B = some r → tt d M L lo (.int y :: st) w x w') : tt d M L lo (.int y :: st) w x w' := by
  by_cases e : y = v
  · rw [if_pos e] at h
    exact tt_S 1 lo st w (fun n => by rw [e]; exact hs n) (g1 h)
  · rw [if_neg e] at h
    exact g2 e h
theorem tt_T0 {pc len : Nat} {df l hi : Int} {os : Array Int} {b : Nat} {bs : List Nat} {k : Int32} {y : Int32} (hy : y.toInt < l ∨ hi < y.toInt) (g : tt d M (M.2.2.2.2.2.1.getD b []) lo st w x w') : tt d M ((pc, len, .tableswitch df l hi os, b :: bs, k) :: L) lo (.int y :: st) w x w' :=
  tt_S 1 lo st w (fun n => if_pos hy) g
/-- an array's length, one of its numbers read, one written -/
theorem tt_L {pc len a n : Nat} {l : List Nat} {k : Int32} (hs : w.1.1[a]? = some (.inr (.int, n))) (g : tt d M L lo (.int (nI n) :: st) w x w') : tt d M ((pc, len, .arraylength, l, k) :: L) lo (.ref a :: st) w x w' := by
  refine tt_S 1 lo _ _ (fun m => ?_) g
  have : ex_heap pg_ro .arraylength l k (.ref a :: st) w = some (.int (nI n) :: st, w) := by
    unfold ex_heap
    dsimp only
    rw [hs]
    exact if_pos (Or.inr rfl)
  show (match ex_heap pg_ro .arraylength l k (.ref a :: st) w with
        | some (st, w) => ex_run pg_ro pg_mt m d M.2.2.2.2.2.1 L lo st w
        | none => none) = _
  rw [this]
theorem tt_La {pc len a n : Nat} {l : List Nat} {k : Int32} {j : Int32} (hs : w.1.1[a]? = some (.inr (.int, n))) (hj : ex_in j n) (g : tt d M L lo (.int (w.2.1 a j.toNatClampNeg) :: st) w x w') : tt d M ((pc, len, .iaload, l, k) :: L) lo (.int j :: .ref a :: st) w x w' := by
  refine tt_S 1 lo _ _ (fun m => ?_) g
  have : ex_heap pg_ro .iaload l k (.int j :: .ref a :: st) w = some (.int (w.2.1 a j.toNatClampNeg) :: st, w) := by
    unfold ex_heap
    dsimp only
    rw [hs]
    exact if_pos hj
  show (match ex_heap pg_ro .iaload l k (.int j :: .ref a :: st) w with
        | some (st, w) => ex_run pg_ro pg_mt m d M.2.2.2.2.2.1 L lo st w
        | none => none) = _
  rw [this]
theorem tt_Ls {pc len a n : Nat} {l : List Nat} {k : Int32} {j v : Int32} (hs : w.1.1[a]? = some (.inr (.int, n))) (hj : ex_in j n) (ha : pg_ro ≤ a) (g : tt d M L lo st (w.1, up w.2.1 a j.toNatClampNeg v, w.2.2.1, w.2.2.2) x w') : tt d M ((pc, len, .iastore, l, k) :: L) lo (.int v :: .int j :: .ref a :: st) w x w' := by
  refine tt_S 1 lo _ _ (fun m => ?_) g
  have : ex_heap pg_ro .iastore l k (.int v :: .int j :: .ref a :: st) w = some (st, (w.1, up w.2.1 a j.toNatClampNeg v, w.2.2.1, w.2.2.2)) := by
    unfold ex_heap
    dsimp only
    rw [hs]
    exact if_pos ⟨hj, ha⟩
  show (match ex_heap pg_ro .iastore l k (.int v :: .int j :: .ref a :: st) w with
        | some (st, w) => ex_run pg_ro pg_mt m d M.2.2.2.2.2.1 L lo st w
        | none => none) = _
  rw [this]
theorem tt_Qi {pc len a n : Nat} {l : List Nat} {k : Int32} {j : Int32} {A : Option R} (hs : (cw κ cs I J W).1.1[a]? = some (.inr (.int, n))) (h : (if ex_in j n then A else none) = some r) (g : A = some r → tt d M L lo (.int (I a j.toNatClampNeg) :: st) (cw κ cs I J W) x w') : tt d M ((pc, len, .iaload, l, k) :: L) lo (.int j :: .ref a :: st) (cw κ cs I J W) x w' := by
  by_cases hc : ex_in j n
  · rw [if_pos hc] at h
    refine tt_S 1 lo _ _ (fun m => ?_) (g h)
    have : ex_heap pg_ro .iaload l k (.int j :: .ref a :: st) (cw κ cs I J W) = some (.int (I a j.toNatClampNeg) :: st, (cw κ cs I J W)) := by
      unfold ex_heap
      dsimp only
      rw [hs]
      exact if_pos hc
    show (match ex_heap pg_ro .iaload l k (.int j :: .ref a :: st) (cw κ cs I J W) with
        | some (st, w) => ex_run pg_ro pg_mt m d M.2.2.2.2.2.1 L lo st w
        | none => none) = _
    rw [this]
  · rw [if_neg hc] at h
    cases h
theorem tt_Qb {pc len a n : Nat} {l : List Nat} {k : Int32} {j : Int32} {A : Option R} (hs : (cw κ cs I J W).1.1[a]? = some (.inr (.byte, n))) (h : (if ex_in j n then A else none) = some r) (g : A = some r → tt d M L lo (.int (I a j.toNatClampNeg) :: st) (cw κ cs I J W) x w') : tt d M ((pc, len, .baload, l, k) :: L) lo (.int j :: .ref a :: st) (cw κ cs I J W) x w' := by
  by_cases hc : ex_in j n
  · rw [if_pos hc] at h
    refine tt_S 1 lo _ _ (fun m => ?_) (g h)
    have : ex_heap pg_ro .baload l k (.int j :: .ref a :: st) (cw κ cs I J W) = some (.int (I a j.toNatClampNeg) :: st, (cw κ cs I J W)) := by
      unfold ex_heap
      dsimp only
      rw [hs]
      exact if_pos hc
    show (match ex_heap pg_ro .baload l k (.int j :: .ref a :: st) (cw κ cs I J W) with
        | some (st, w) => ex_run pg_ro pg_mt m d M.2.2.2.2.2.1 L lo st w
        | none => none) = _
    rw [this]
  · rw [if_neg hc] at h
    cases h
theorem tt_Qz {pc len a n : Nat} {l : List Nat} {k : Int32} {j : Int32} {A : Option R} (hs : (cw κ cs I J W).1.1[a]? = some (.inr (.boolean, n))) (h : (if ex_in j n then A else none) = some r) (g : A = some r → tt d M L lo (.int (I a j.toNatClampNeg) :: st) (cw κ cs I J W) x w') : tt d M ((pc, len, .baload, l, k) :: L) lo (.int j :: .ref a :: st) (cw κ cs I J W) x w' := by
  by_cases hc : ex_in j n
  · rw [if_pos hc] at h
    refine tt_S 1 lo _ _ (fun m => ?_) (g h)
    have : ex_heap pg_ro .baload l k (.int j :: .ref a :: st) (cw κ cs I J W) = some (.int (I a j.toNatClampNeg) :: st, (cw κ cs I J W)) := by
      unfold ex_heap
      dsimp only
      rw [hs]
      exact if_pos hc
    show (match ex_heap pg_ro .baload l k (.int j :: .ref a :: st) (cw κ cs I J W) with
        | some (st, w) => ex_run pg_ro pg_mt m d M.2.2.2.2.2.1 L lo st w
        | none => none) = _
    rw [this]
  · rw [if_neg hc] at h
    cases h
theorem tt_Ql {pc len a n : Nat} {l : List Nat} {k : Int32} {j : Int32} {A : Option R} (hs : (cw κ cs I J W).1.1[a]? = some (.inr (.long, n))) (h : (if ex_in j n then A else none) = some r) (g : A = some r → tt d M L lo (.long (J a j.toNatClampNeg) :: st) (cw κ cs I J W) x w') : tt d M ((pc, len, .laload, l, k) :: L) lo (.int j :: .ref a :: st) (cw κ cs I J W) x w' := by
  by_cases hc : ex_in j n
  · rw [if_pos hc] at h
    refine tt_S 1 lo _ _ (fun m => ?_) (g h)
    have : ex_heap pg_ro .laload l k (.int j :: .ref a :: st) (cw κ cs I J W) = some (.long (J a j.toNatClampNeg) :: st, (cw κ cs I J W)) := by
      unfold ex_heap
      dsimp only
      rw [hs]
      exact if_pos hc
    show (match ex_heap pg_ro .laload l k (.int j :: .ref a :: st) (cw κ cs I J W) with
        | some (st, w) => ex_run pg_ro pg_mt m d M.2.2.2.2.2.1 L lo st w
        | none => none) = _
    rw [this]
  · rw [if_neg hc] at h
    cases h
theorem tt_Wi {pc len a n : Nat} {l : List Nat} {k : Int32} {j : Int32} {v : Int32} {A : Option R} (hs : (cw κ cs I J W).1.1[a]? = some (.inr (.int, n))) (ha : pg_ro ≤ a) (h : (if ex_in j n then A else none) = some r) (g : A = some r → tt d M L lo st (cw κ cs (up I a j.toNatClampNeg v) J W) x w') : tt d M ((pc, len, .iastore, l, k) :: L) lo (.int v :: .int j :: .ref a :: st) (cw κ cs I J W) x w' := by
  by_cases hc : ex_in j n
  · rw [if_pos hc] at h
    refine tt_S 1 lo _ _ (fun m => ?_) (g h)
    have : ex_heap pg_ro .iastore l k (.int v :: .int j :: .ref a :: st) (cw κ cs I J W) = some (st, (cw κ cs (up I a j.toNatClampNeg v) J W)) := by
      unfold ex_heap
      dsimp only
      rw [hs]
      exact if_pos ⟨hc, ha⟩
    show (match ex_heap pg_ro .iastore l k (.int v :: .int j :: .ref a :: st) (cw κ cs I J W) with
        | some (st, w) => ex_run pg_ro pg_mt m d M.2.2.2.2.2.1 L lo st w
        | none => none) = _
    rw [this]
  · rw [if_neg hc] at h
    cases h
theorem tt_Wb {pc len a n : Nat} {l : List Nat} {k : Int32} {j : Int32} {v : Int32} {A : Option R} (hs : (cw κ cs I J W).1.1[a]? = some (.inr (.byte, n))) (ha : pg_ro ≤ a) (h : (if ex_in j n then A else none) = some r) (g : A = some r → tt d M L lo st (cw κ cs (up I a j.toNatClampNeg (vp_nar .byte v)) J W) x w') : tt d M ((pc, len, .bastore, l, k) :: L) lo (.int v :: .int j :: .ref a :: st) (cw κ cs I J W) x w' := by
  by_cases hc : ex_in j n
  · rw [if_pos hc] at h
    refine tt_S 1 lo _ _ (fun m => ?_) (g h)
    have : ex_heap pg_ro .bastore l k (.int v :: .int j :: .ref a :: st) (cw κ cs I J W) = some (st, (cw κ cs (up I a j.toNatClampNeg (vp_nar .byte v)) J W)) := by
      unfold ex_heap
      dsimp only
      rw [hs]
      exact if_pos ⟨hc, ha⟩
    show (match ex_heap pg_ro .bastore l k (.int v :: .int j :: .ref a :: st) (cw κ cs I J W) with
        | some (st, w) => ex_run pg_ro pg_mt m d M.2.2.2.2.2.1 L lo st w
        | none => none) = _
    rw [this]
  · rw [if_neg hc] at h
    cases h
theorem tt_Wz {pc len a n : Nat} {l : List Nat} {k : Int32} {j : Int32} {v : Int32} {A : Option R} (hs : (cw κ cs I J W).1.1[a]? = some (.inr (.boolean, n))) (ha : pg_ro ≤ a) (h : (if ex_in j n then A else none) = some r) (g : A = some r → tt d M L lo st (cw κ cs (up I a j.toNatClampNeg (vp_nar .boolean v)) J W) x w') : tt d M ((pc, len, .bastore, l, k) :: L) lo (.int v :: .int j :: .ref a :: st) (cw κ cs I J W) x w' := by
  by_cases hc : ex_in j n
  · rw [if_pos hc] at h
    refine tt_S 1 lo _ _ (fun m => ?_) (g h)
    have : ex_heap pg_ro .bastore l k (.int v :: .int j :: .ref a :: st) (cw κ cs I J W) = some (st, (cw κ cs (up I a j.toNatClampNeg (vp_nar .boolean v)) J W)) := by
      unfold ex_heap
      dsimp only
      rw [hs]
      exact if_pos ⟨hc, ha⟩
    show (match ex_heap pg_ro .bastore l k (.int v :: .int j :: .ref a :: st) (cw κ cs I J W) with
        | some (st, w) => ex_run pg_ro pg_mt m d M.2.2.2.2.2.1 L lo st w
        | none => none) = _
    rw [this]
  · rw [if_neg hc] at h
    cases h
theorem tt_Wl {pc len a n : Nat} {l : List Nat} {k : Int32} {j : Int32} {v : Int64} {A : Option R} (hs : (cw κ cs I J W).1.1[a]? = some (.inr (.long, n))) (ha : pg_ro ≤ a) (h : (if ex_in j n then A else none) = some r) (g : A = some r → tt d M L lo st (cw κ cs I (up J a j.toNatClampNeg v) W) x w') : tt d M ((pc, len, .lastore, l, k) :: L) lo (.long v :: .int j :: .ref a :: st) (cw κ cs I J W) x w' := by
  by_cases hc : ex_in j n
  · rw [if_pos hc] at h
    refine tt_S 1 lo _ _ (fun m => ?_) (g h)
    have : ex_heap pg_ro .lastore l k (.long v :: .int j :: .ref a :: st) (cw κ cs I J W) = some (st, (cw κ cs I (up J a j.toNatClampNeg v) W)) := by
      unfold ex_heap
      dsimp only
      rw [hs]
      exact if_pos ⟨hc, ha⟩
    show (match ex_heap pg_ro .lastore l k (.long v :: .int j :: .ref a :: st) (cw κ cs I J W) with
        | some (st, w) => ex_run pg_ro pg_mt m d M.2.2.2.2.2.1 L lo st w
        | none => none) = _
    rw [this]
  · rw [if_neg hc] at h
    cases h
theorem tt_Z {pc len jj a f p q ci : Nat} {k v : Int32} {A : Option R} (hs : (cw κ cs I J W).1.1[a]? = some (.inl ci)) (ha : pg_ro ≤ a) (h : (if v = 0 ∨ v = 1 then A else none) = some r) (g : A = some r → tt d M L lo st (cw κ cs (up I a f v) J W) x w') : tt d M ((pc, len, .putfield jj, [ci, f, 3, p, q], k) :: L) lo (.int v :: .ref a :: st) (cw κ cs I J W) x w' := by
  by_cases hc : v = 0 ∨ v = 1
  · rw [if_pos hc] at h
    refine tt_S 1 lo _ _ (fun m => ?_) (g h)
    have : ex_heap pg_ro (.putfield jj) [ci, f, 3, p, q] k (.int v :: .ref a :: st) (cw κ cs I J W) = some (st, (cw κ cs (up I a f v) J W)) := by
      unfold ex_heap
      show (match (cw κ cs I J W).1.1[a]? with
        | some (.inl cj) => if cj = ci ∧ pg_ro ≤ a then (if v = 0 ∨ v = 1 then some (st, (cw κ cs (up I a f v) J W)) else none) else none
        | _ => none) = _
      rw [hs]
      dsimp only
      rw [if_pos ⟨rfl, ha⟩, if_pos hc]
    show (match ex_heap pg_ro (.putfield jj) [ci, f, 3, p, q] k (.int v :: .ref a :: st) (cw κ cs I J W) with
        | some (st, w) => ex_run pg_ro pg_mt m d M.2.2.2.2.2.1 L lo st w
        | none => none) = _
    rw [this]
  · rw [if_neg hc] at h
    cases h
theorem tt_Di {pc len : Nat} {l : List Nat} {k : Int32} {u v : Int32} {A : Option R} (h : (if v = 0 then none else A) = some r) (g : A = some r → tt d M L lo (.int (u / v) :: st) w x w') : tt d M ((pc, len, .idiv, l, k) :: L) lo (.int v :: .int u :: st) w x w' := by
  by_cases hc : v = 0
  · rw [if_pos hc] at h
    cases h
  · rw [if_neg hc] at h
    refine tt_S 1 lo _ _ (fun m => ?_) (g h)
    have : ex_pure .idiv k lo (.int v :: .int u :: st) = some (lo, .int (u / v) :: st) := if_neg hc
    show (match ex_pure .idiv k lo (.int v :: .int u :: st) with
      | some (lo, st) => ex_run pg_ro pg_mt m d M.2.2.2.2.2.1 L lo st w
      | none => match ex_heap pg_ro .idiv l k (.int v :: .int u :: st) w with
        | some (st, w) => ex_run pg_ro pg_mt m d M.2.2.2.2.2.1 L lo st w
        | none => none) = _
    rw [this]
theorem tt_Dr {pc len : Nat} {l : List Nat} {k : Int32} {u v : Int32} {A : Option R} (h : (if v = 0 then none else A) = some r) (g : A = some r → tt d M L lo (.int (u - u / v * v) :: st) w x w') : tt d M ((pc, len, .irem, l, k) :: L) lo (.int v :: .int u :: st) w x w' := by
  by_cases hc : v = 0
  · rw [if_pos hc] at h
    cases h
  · rw [if_neg hc] at h
    refine tt_S 1 lo _ _ (fun m => ?_) (g h)
    have : ex_pure .irem k lo (.int v :: .int u :: st) = some (lo, .int (u - u / v * v) :: st) := if_neg hc
    show (match ex_pure .irem k lo (.int v :: .int u :: st) with
      | some (lo, st) => ex_run pg_ro pg_mt m d M.2.2.2.2.2.1 L lo st w
      | none => match ex_heap pg_ro .irem l k (.int v :: .int u :: st) w with
        | some (st, w) => ex_run pg_ro pg_mt m d M.2.2.2.2.2.1 L lo st w
        | none => none) = _
    rw [this]
theorem tt_Dl {pc len : Nat} {l : List Nat} {k : Int32} {u v : Int64} {A : Option R} (h : (if v = 0 then none else A) = some r) (g : A = some r → tt d M L lo (.long (u / v) :: st) w x w') : tt d M ((pc, len, .ldiv, l, k) :: L) lo (.long v :: .long u :: st) w x w' := by
  by_cases hc : v = 0
  · rw [if_pos hc] at h
    cases h
  · rw [if_neg hc] at h
    refine tt_S 1 lo _ _ (fun m => ?_) (g h)
    have : ex_pure .ldiv k lo (.long v :: .long u :: st) = some (lo, .long (u / v) :: st) := if_neg hc
    show (match ex_pure .ldiv k lo (.long v :: .long u :: st) with
      | some (lo, st) => ex_run pg_ro pg_mt m d M.2.2.2.2.2.1 L lo st w
      | none => match ex_heap pg_ro .ldiv l k (.long v :: .long u :: st) w with
        | some (st, w) => ex_run pg_ro pg_mt m d M.2.2.2.2.2.1 L lo st w
        | none => none) = _
    rw [this]
theorem tt_Dm {pc len : Nat} {l : List Nat} {k : Int32} {u v : Int64} {A : Option R} (h : (if v = 0 then none else A) = some r) (g : A = some r → tt d M L lo (.long (u - u / v * v) :: st) w x w') : tt d M ((pc, len, .lrem, l, k) :: L) lo (.long v :: .long u :: st) w x w' := by
  by_cases hc : v = 0
  · rw [if_pos hc] at h
    cases h
  · rw [if_neg hc] at h
    refine tt_S 1 lo _ _ (fun m => ?_) (g h)
    have : ex_pure .lrem k lo (.long v :: .long u :: st) = some (lo, .long (u - u / v * v) :: st) := if_neg hc
    show (match ex_pure .lrem k lo (.long v :: .long u :: st) with
      | some (lo, st) => ex_run pg_ro pg_mt m d M.2.2.2.2.2.1 L lo st w
      | none => match ex_heap pg_ro .lrem l k (.long v :: .long u :: st) w with
        | some (st, w) => ex_run pg_ro pg_mt m d M.2.2.2.2.2.1 L lo st w
        | none => none) = _
    rw [this]
end TR
theorem in_iff {i : Int32} {n : Nat} (hn : n < 2 ^ 31) (h0 : ¬ i < 0) : i < nI n ↔ ex_in i n := by
  rw [Int32.lt_iff_toInt_lt, nI_toInt hn]
  rw [Int32.lt_iff_toInt_lt] at h0
  have e : (i.toNatClampNeg : Int) = i.toInt := by
    rw [Int32.toNatClampNeg]
    have : (0 : Int32).toInt = 0 := rfl
    omega
  constructor
  · intro h
    exact ⟨by rw [Int32.lt_iff_toInt_lt]; exact h0, by omega⟩
  · intro h
    have := h.2
    omega
section TH
variable {d : Nat} {κ : KT} {cs : Nat × Nat} {I : Nat → Nat → Int32} {J : Nat → Nat → Int64} {W : Nat}
theorem m_at (a n : Nat) (i : Int32) (hn : n < 2 ^ 31) (hs : (cw κ cs I J W).1.1[a]? = some (.inr (.int, n))) : tm d 127 [.ref a, .int i] (cw κ cs I J W) (.inl (some (.int (atf (I a) n i)))) (cw κ cs I J W) := by
  refine tm_of me_127 rfl (Nat.le_of_ble_eq_true rfl) ?_
  unfold atf
  by_cases h0 : i < 0
  · rw [if_neg (fun h => h.1 h0)]
    exact tt_S 2 (L1 := bk_127_1) [some (.ref a), some (.int i)] [] _ (fun _ => if_pos h0) ⟨2, fun _ => rfl⟩
  · refine tt_S 2 [some (.ref a), some (.int i)] [] (cw κ cs I J W) (fun _ => if_neg h0) ?_
    refine tt_S 2 [some (.ref a), some (.int i)] [.ref a, .int i] (cw κ cs I J W) (fun _ => rfl) ?_
    refine tt_L hs ?_
    by_cases h1 : i < nI n
    · have hj := (in_iff hn h0).mp h1
      rw [if_pos hj]
      refine tt_S 1 [some (.ref a), some (.int i)] [] (cw κ cs I J W) (fun _ => if_pos h1) ?_
      refine tt_S 2 [some (.ref a), some (.int i)] [.int i, .ref a] (cw κ cs I J W) (fun _ => rfl) ?_
      refine tt_La hs hj ?_
      exact ⟨2, fun _ => rfl⟩
    · rw [if_neg (fun h => h1 ((in_iff hn h0).mpr h))]
      exact tt_S 1 (L1 := bk_127_1) [some (.ref a), some (.int i)] [] (cw κ cs I J W) (fun _ => if_neg h1) ⟨2, fun _ => rfl⟩
theorem m_put (a n : Nat) (i v : Int32) (hn : n < 2 ^ 31) (hs : (cw κ cs I J W).1.1[a]? = some (.inr (.int, n))) (ha : pg_ro ≤ a) : tm d 128 [.ref a, .int i, .int v] (cw κ cs I J W) (.inl none) (cw κ cs (putf I a n i v) J W) := by
  refine tm_of me_128 rfl (Nat.le_of_ble_eq_true rfl) ?_
  unfold putf
  by_cases h0 : i < 0
  · rw [if_neg (fun h => h.1 h0)]
    exact tt_S 2 (L1 := bk_128_1) [some (.ref a), some (.int i), some (.int v)] [] _ (fun _ => if_pos h0) ⟨1, fun _ => rfl⟩
  · refine tt_S 2 [some (.ref a), some (.int i), some (.int v)] [] (cw κ cs I J W) (fun _ => if_neg h0) ?_
    refine tt_S 2 [some (.ref a), some (.int i), some (.int v)] [.ref a, .int i] (cw κ cs I J W) (fun _ => rfl) ?_
    refine tt_L hs ?_
    by_cases h1 : i < nI n
    · have hj := (in_iff hn h0).mp h1
      rw [if_pos hj]
      refine tt_S 1 [some (.ref a), some (.int i), some (.int v)] [] (cw κ cs I J W) (fun _ => if_pos h1) ?_
      refine tt_S 3 [some (.ref a), some (.int i), some (.int v)] [.int v, .int i, .ref a] (cw κ cs I J W) (fun _ => rfl) ?_
      refine tt_Ls hs hj ha ?_
      exact ⟨1, fun _ => rfl⟩
    · rw [if_neg (fun h => h1 ((in_iff hn h0).mpr h))]
      exact tt_S 1 (L1 := bk_128_1) [some (.ref a), some (.int i), some (.int v)] [] (cw κ cs I J W) (fun _ => if_neg h1) ⟨1, fun _ => rfl⟩
theorem filf_up (a n : Nat) (v : Int32) : up (filf I a n v) a n v = filf I a (n + 1) v := by
  funext x k
  unfold up filf ex_set va_up
  by_cases hx : x = a
  · subst hx
    simp only [if_true]
    by_cases hk : k = n
    · subst hk
      simp
    · rw [if_neg hk]
      by_cases h1 : k < n
      · rw [if_pos h1, if_pos (by omega)]
      · rw [if_neg h1, if_neg (by omega)]
  · simp only [if_neg hx]
theorem filf_0 (a : Nat) (v : Int32) : filf I a 0 v = I := by
  funext x k
  unfold filf ex_set
  by_cases hx : x = a
  · subst hx
    simp
  · simp only [if_neg hx]
theorem m_fillL (a n : Nat) (v : Int32) (hn : n < 2 ^ 31) (hs : ∀ I : Nat → Nat → Int32, (cw κ cs I J W).1.1[a]? = some (.inr (.int, n))) (ha : pg_ro ≤ a) : ∀ (j i : Nat), i + j = n → tt d me_220 bk_220_1 [some (.ref a), some (.int v), some (.int (nI i)), some (.int (nI n))] [] (cw κ cs (filf I a i v) J W) (.inl none) (cw κ cs (filf I a n v) J W)
  | 0, i, h => by
    have e : i = n := by omega
    subst e
    refine tt_S 3 (L1 := bk_220_2) [some (.ref a), some (.int v), some (.int (nI i)), some (.int (nI i))] [] (cw κ cs (filf I a i v) J W) (fun _ => if_neg (nI_nlt (Nat.le_refl i) hn)) ?_
    exact ⟨1, fun _ => rfl⟩
  | j + 1, i, h => by
    refine tt_S 3 [some (.ref a), some (.int v), some (.int (nI i)), some (.int (nI n))] [] (cw κ cs (filf I a i v) J W) (fun _ => if_pos (nI_lt (show i < n by omega) hn)) ?_
    refine tt_S 3 [some (.ref a), some (.int v), some (.int (nI i)), some (.int (nI n))] [.int v, .int (nI i), .ref a] (cw κ cs (filf I a i v) J W) (fun _ => rfl) ?_
    refine tt_Ls (hs _) ⟨nI_pos (by omega), by rw [nI_clamp (by omega)]; omega⟩ ha ?_
    have g := m_fillL a n v hn hs ha j (i + 1) (by omega)
    rw [← filf_up] at g
    rw [nI_clamp (show i < 2 ^ 31 by omega)]
    refine tt_S 2 (L1 := bk_220_1) [some (.ref a), some (.int v), some (.int (nI i + 1)), some (.int (nI n))] [] (cw κ cs (up (filf I a i v) a i v) J W) (fun _ => rfl) ?_
    rw [nI_1]
    exact g
theorem m_fill (a n : Nat) (v : Int32) (hn : n < 2 ^ 31) (hs : ∀ I : Nat → Nat → Int32, (cw κ cs I J W).1.1[a]? = some (.inr (.int, n))) (ha : pg_ro ≤ a) : tm d 220 [.ref a, .int v] (cw κ cs I J W) (.inl none) (cw κ cs (filf I a n v) J W) := by
  refine tm_of me_220 rfl (Nat.le_of_ble_eq_true rfl) ?_
  refine tt_S 3 [some (.ref a), some (.int v), some (.int 0), none] [.ref a] (cw κ cs I J W) (fun _ => rfl) ?_
  refine tt_L (hs I) ?_
  refine tt_S 1 (L1 := bk_220_1) [some (.ref a), some (.int v), some (.int 0), some (.int (nI n))] [] (cw κ cs I J W) (fun _ => rfl) ?_
  have g := m_fillL (d := d) (I := I) a n v hn hs ha n 0 (by omega)
  rw [filf_0] at g
  exact g
theorem m_min (a b : Nat) (ha : a < 2 ^ 31) (hb : b < 2 ^ 31) : tm d 213 [.int (nI a), .int (nI b)] (cw κ cs I J W) (.inl (some (.int (nI (min a b))))) (cw κ cs I J W) := by
  refine tm_of me_213 rfl (Nat.le_of_ble_eq_true rfl) ?_
  by_cases h : b < a
  · rw [Nat.min_eq_right (by omega)]
    exact tt_S 3 (L1 := bk_213_1) [some (.int (nI a)), some (.int (nI b))] [] (cw κ cs I J W) (fun _ => if_pos (nI_lt h ha)) ⟨2, fun _ => rfl⟩
  · rw [Nat.min_eq_left (by omega)]
    exact tt_S 3 [some (.int (nI a)), some (.int (nI b))] [] (cw κ cs I J W) (fun _ => if_neg (nI_nlt (show a ≤ b by omega) hb)) ⟨3, fun _ => rfl⟩
theorem m_copy (a n b m : Nat) (hn : n < 2 ^ 31) (hm : m < 2 ^ 31) (hs : (cw κ cs I J W).1.1[a]? = some (.inr (.int, n))) (ht : (cw κ cs I J W).1.1[b]? = some (.inr (.int, m))) (hb : pg_ro ≤ b) : tm (d + 1) 129 [.ref a, .ref b] (cw κ cs I J W) (.inl none) (cw κ cs (cpyf I a b (min n m)) J W) := by
  refine tm_of me_129 rfl (Nat.le_of_ble_eq_true rfl) ?_
  refine tt_S 5 [some (.ref a), some (.ref b)] [.ref a, .int 0, .ref b, .int 0, .ref a] (cw κ cs I J W) (fun _ => rfl) ?_
  refine tt_L hs ?_
  refine tt_S 1 [some (.ref a), some (.ref b)] [.ref b, .int (nI n), .int 0, .ref b, .int 0, .ref a] (cw κ cs I J W) (fun _ => rfl) ?_
  refine tt_L ht ?_
  refine tt_K 1 [some (.ref a), some (.ref b)] [.int 0, .ref b, .int 0, .ref a] (cw κ cs I J W) (fun _ => rfl) (m_min n m hn hm) ?_
  have h0 : (nI (min n m)).toNatClampNeg = min n m := nI_clamp (by omega)
  have z0 : (0 : Int32).toNatClampNeg = 0 := rfl
  refine tt_S 1 (L1 := [(14, 1, .return_, [], 0)]) [some (.ref a), some (.ref b)] [] (cw κ cs (cpyf I a b (min n m)) J W) (fun k => ?_) ⟨1, fun _ => rfl⟩
  show ex_inv pg_ro pg_mt (ex_run pg_ro pg_mt k) (d + 1) me_129.2.2.2.2.2.1 [7] _ [some (.ref a), some (.ref b)] [.int (nI (min n m)), .int 0, .ref b, .int 0, .ref a] (cw κ cs I J W) = _
  unfold ex_inv
  dsimp only
  rw [hs, ht]
  dsimp only
  rw [if_pos ⟨⟨hb, Nat.le_of_ble_eq_true rfl⟩, by decide, by decide, nI_pos (by omega), by rw [h0, z0]; omega, by rw [h0, z0]; omega⟩, h0]
  rfl
end TH
/-- one of the words' texts, of their bytes -/
abbrev isS (x : Nat) : Prop := 18 ≤ x ∧ x ≤ 34
abbrev isB (x : Nat) : Prop := 35 ≤ x ∧ x ≤ 51
def bl (z : Nat) : Nat := [5, 5, 4, 4, 4, 5, 4, 4, 3, 3, 5, 4, 2, 2, 3, 3, 0].getD (z - 35) 0
/-- how many cells and slots a call that answered so made -/
def xk (cs : Nat × Nat) (k : Int32) : Nat × Nat := if k = 0 then cs else (cs.1 + 1, cs.2 + 6)
section TX
variable {d : Nat} {M : ex_M} {L L1 L2 : List ex_R} {lo : ex_Lo} {st : List Value} {w w' : ex_W} {x : Option Value ⊕ Nat} {R S : Type} {r : R} {κ : KT} {cs : Nat × Nat} {I : Nat → Nat → Int32} {J : Nat → Nat → Int64} {W : Nat}
theorem isS_sh {y : Nat} (h : isS y) : (cw κ cs I J W).1.1[y]? = some (.inl 101) := by
  obtain ⟨h1, h2⟩ := h
  have : y = 18 ∨ y = 19 ∨ y = 20 ∨ y = 21 ∨ y = 22 ∨ y = 23 ∨ y = 24 ∨ y = 25 ∨ y = 26 ∨ y = 27 ∨ y = 28 ∨ y = 29 ∨ y = 30 ∨ y = 31 ∨ y = 32 ∨ y = 33 ∨ y = 34 := by omega
  rcases this with rfl | rfl | rfl | rfl | rfl | rfl | rfl | rfl | rfl | rfl | rfl | rfl | rfl | rfl | rfl | rfl | rfl <;> rfl
theorem isB_sh {y : Nat} (h : isB y) : (cw κ cs I J W).1.1[y]? = some (.inr (.byte, bl y)) := by
  obtain ⟨h1, h2⟩ := h
  have : y = 35 ∨ y = 36 ∨ y = 37 ∨ y = 38 ∨ y = 39 ∨ y = 40 ∨ y = 41 ∨ y = 42 ∨ y = 43 ∨ y = 44 ∨ y = 45 ∨ y = 46 ∨ y = 47 ∨ y = 48 ∨ y = 49 ∨ y = 50 ∨ y = 51 := by omega
  rcases this with rfl | rfl | rfl | rfl | rfl | rfl | rfl | rfl | rfl | rfl | rfl | rfl | rfl | rfl | rfl | rfl | rfl <;> rfl
theorem isw_R {y : Nat} (h : isw y) : (cw κ cs I J W).2.2.2 y 0 = some (y + 17) := by
  obtain ⟨h1, h2⟩ := h
  have : y = 1 ∨ y = 2 ∨ y = 3 ∨ y = 4 ∨ y = 5 ∨ y = 6 ∨ y = 7 ∨ y = 8 ∨ y = 9 ∨ y = 10 ∨ y = 11 ∨ y = 12 ∨ y = 13 ∨ y = 14 ∨ y = 15 ∨ y = 16 ∨ y = 17 := by omega
  rcases this with rfl | rfl | rfl | rfl | rfl | rfl | rfl | rfl | rfl | rfl | rfl | rfl | rfl | rfl | rfl | rfl | rfl <;> rfl
theorem isS_R {y : Nat} (h : isS y) : (cw κ cs I J W).2.2.2 y 0 = some (y + 17) := by
  obtain ⟨h1, h2⟩ := h
  have : y = 18 ∨ y = 19 ∨ y = 20 ∨ y = 21 ∨ y = 22 ∨ y = 23 ∨ y = 24 ∨ y = 25 ∨ y = 26 ∨ y = 27 ∨ y = 28 ∨ y = 29 ∨ y = 30 ∨ y = 31 ∨ y = 32 ∨ y = 33 ∨ y = 34 := by omega
  rcases this with rfl | rfl | rfl | rfl | rfl | rfl | rfl | rfl | rfl | rfl | rfl | rfl | rfl | rfl | rfl | rfl | rfl <;> rfl
theorem all_R {j : Nat} (h : j < 17) : (cw κ cs I J W).2.2.2 52 j = some (1 + j) := by
  have : j = 0 ∨ j = 1 ∨ j = 2 ∨ j = 3 ∨ j = 4 ∨ j = 5 ∨ j = 6 ∨ j = 7 ∨ j = 8 ∨ j = 9 ∨ j = 10 ∨ j = 11 ∨ j = 12 ∨ j = 13 ∨ j = 14 ∨ j = 15 ∨ j = 16 := by omega
  rcases this with rfl | rfl | rfl | rfl | rfl | rfl | rfl | rfl | rfl | rfl | rfl | rfl | rfl | rfl | rfl | rfl | rfl <;> rfl
theorem isS_ro {y : Nat} (h : isS y) : ¬ pg_ro ≤ y := by
  have : pg_ro = 58 := rfl
  omega
theorem isB_ro {y : Nat} (h : isB y) : ¬ pg_ro ≤ y := by
  have : pg_ro = 58 := rfl
  omega
/-- a word's text -/
theorem tt_Vs {pc len j p q y : Nat} {k : Int32} {A : Option R} (h : (if isw y then A else none) = some r) (g : A = some r → tt d M L lo (.ref (y + 17) :: st) (cw κ cs I J W) x w') : tt d M ((pc, len, .getfield j, [100, 0, 2, p, q], k) :: L) lo (.ref y :: st) (cw κ cs I J W) x w' := by
  by_cases hc : isw y
  · rw [if_pos hc] at h
    refine tt_S 1 lo _ _ (fun n => ?_) (g h)
    show (match ex_heap pg_ro (.getfield j) [100, 0, 2, p, q] k (.ref y :: st) (cw κ cs I J W) with
        | some (st, w) => ex_run pg_ro pg_mt n d M.2.2.2.2.2.1 L lo st w
        | none => none) = _
    have : ex_heap pg_ro (.getfield j) [100, 0, 2, p, q] k (.ref y :: st) (cw κ cs I J W) = some (.ref (y + 17) :: st, cw κ cs I J W) := by
      unfold ex_heap
      dsimp only
      rw [isw_sh hc]
      dsimp only
      rw [if_pos ⟨rfl, Or.inr ⟨by decide, isw_ro hc⟩⟩]
      show some (va_rf ((cw κ cs I J W).2.2.2 y 0) :: st, cw κ cs I J W) = _
      rw [isw_R hc]
      rfl
    rw [this]
  · rw [if_neg hc] at h
    cases h
/-- a text's bytes -/
theorem tt_Sv {pc len j p q y : Nat} {k : Int32} {A : Option R} (h : (if isS y then A else none) = some r) (g : A = some r → tt d M L lo (.ref (y + 17) :: st) (cw κ cs I J W) x w') : tt d M ((pc, len, .getfield j, [101, 0, 2, p, q], k) :: L) lo (.ref y :: st) (cw κ cs I J W) x w' := by
  by_cases hc : isS y
  · rw [if_pos hc] at h
    refine tt_S 1 lo _ _ (fun n => ?_) (g h)
    show (match ex_heap pg_ro (.getfield j) [101, 0, 2, p, q] k (.ref y :: st) (cw κ cs I J W) with
        | some (st, w) => ex_run pg_ro pg_mt n d M.2.2.2.2.2.1 L lo st w
        | none => none) = _
    have : ex_heap pg_ro (.getfield j) [101, 0, 2, p, q] k (.ref y :: st) (cw κ cs I J W) = some (.ref (y + 17) :: st, cw κ cs I J W) := by
      unfold ex_heap
      dsimp only
      rw [isS_sh hc]
      dsimp only
      rw [if_pos ⟨rfl, Or.inr ⟨by decide, isS_ro hc⟩⟩]
      show some (va_rf ((cw κ cs I J W).2.2.2 y 0) :: st, cw κ cs I J W) = _
      rw [isS_R hc]
      rfl
    rw [this]
  · rw [if_neg hc] at h
    cases h
/-- a text's coder -/
theorem tt_Sc {pc len j p q y : Nat} {k : Int32} {A : Option R} (h : (if isS y then A else none) = some r) (g : A = some r → tt d M L lo (.int (I y 1) :: st) (cw κ cs I J W) x w') : tt d M ((pc, len, .getfield j, [101, 1, 4, p, q], k) :: L) lo (.ref y :: st) (cw κ cs I J W) x w' := by
  by_cases hc : isS y
  · rw [if_pos hc] at h
    refine tt_S 1 lo _ _ (fun n => ?_) (g h)
    show (match ex_heap pg_ro (.getfield j) [101, 1, 4, p, q] k (.ref y :: st) (cw κ cs I J W) with
        | some (st, w) => ex_run pg_ro pg_mt n d M.2.2.2.2.2.1 L lo st w
        | none => none) = _
    have : ex_heap pg_ro (.getfield j) [101, 1, 4, p, q] k (.ref y :: st) (cw κ cs I J W) = some (.int (I y 1) :: st, cw κ cs I J W) := by
      unfold ex_heap
      dsimp only
      rw [isS_sh hc]
      dsimp only
      rw [if_pos ⟨rfl, Or.inr ⟨by decide, isS_ro hc⟩⟩]
      rfl
    rw [this]
  · rw [if_neg hc] at h
    cases h
theorem tt_Bl {pc len y : Nat} {l : List Nat} {k : Int32} {A : Option R} (h : (if isB y then A else none) = some r) (g : A = some r → tt d M L lo (.int (nI (bl y)) :: st) (cw κ cs I J W) x w') : tt d M ((pc, len, .arraylength, l, k) :: L) lo (.ref y :: st) (cw κ cs I J W) x w' := by
  by_cases hc : isB y
  · rw [if_pos hc] at h
    refine tt_S 1 lo _ _ (fun n => ?_) (g h)
    have : ex_heap pg_ro .arraylength l k (.ref y :: st) (cw κ cs I J W) = some (.int (nI (bl y)) :: st, cw κ cs I J W) := by
      unfold ex_heap
      dsimp only
      rw [isB_sh hc]
      exact if_pos (Or.inl (isB_ro hc))
    show (match ex_heap pg_ro .arraylength l k (.ref y :: st) (cw κ cs I J W) with
        | some (st, w) => ex_run pg_ro pg_mt n d M.2.2.2.2.2.1 L lo st w
        | none => none) = _
    rw [this]
  · rw [if_neg hc] at h
    cases h
theorem tt_Bb {pc len y : Nat} {l : List Nat} {k j : Int32} {A : Option R} (h : (if isB y ∧ ex_in j (bl y) then A else none) = some r) (g : A = some r → tt d M L lo (.int (I y j.toNatClampNeg) :: st) (cw κ cs I J W) x w') : tt d M ((pc, len, .baload, l, k) :: L) lo (.int j :: .ref y :: st) (cw κ cs I J W) x w' := by
  by_cases hc : isB y ∧ ex_in j (bl y)
  · rw [if_pos hc] at h
    refine tt_S 1 lo _ _ (fun n => ?_) (g h)
    have : ex_heap pg_ro .baload l k (.int j :: .ref y :: st) (cw κ cs I J W) = some (.int (I y j.toNatClampNeg) :: st, cw κ cs I J W) := by
      unfold ex_heap
      dsimp only
      rw [isB_sh hc.1]
      exact if_pos hc.2
    show (match ex_heap pg_ro .baload l k (.int j :: .ref y :: st) (cw κ cs I J W) with
        | some (st, w) => ex_run pg_ro pg_mt n d M.2.2.2.2.2.1 L lo st w
        | none => none) = _
    rw [this]
  · rw [if_neg hc] at h
    cases h
theorem tt_Aa {pc len : Nat} {l : List Nat} {k j : Int32} {A : Option R} (h : (if ex_in j 17 then A else none) = some r) (g : A = some r → tt d M L lo (.ref (1 + j.toNatClampNeg) :: st) (cw κ cs I J W) x w') : tt d M ((pc, len, .aaload, l, k) :: L) lo (.int j :: .ref 52 :: st) (cw κ cs I J W) x w' := by
  by_cases hc : ex_in j 17
  · rw [if_pos hc] at h
    refine tt_S 1 lo _ _ (fun n => ?_) (g h)
    have : ex_heap pg_ro .aaload l k (.int j :: .ref 52 :: st) (cw κ cs I J W) = some (.ref (1 + j.toNatClampNeg) :: st, cw κ cs I J W) := by
      unfold ex_heap
      dsimp only
      have e : (cw κ cs I J W).1.1[52]? = some (.inr (.object "PileTricks$Word", 17)) := rfl
      rw [e]
      dsimp only
      rw [if_pos ⟨hc, by decide⟩, all_R hc.2]
      rfl
    show (match ex_heap pg_ro .aaload l k (.int j :: .ref 52 :: st) (cw κ cs I J W) with
        | some (st, w) => ex_run pg_ro pg_mt n d M.2.2.2.2.2.1 L lo st w
        | none => none) = _
    rw [this]
  · rw [if_neg hc] at h
    cases h
theorem isS_rcv {y : Nat} (h : isS y) (as : List Value) : ex_rcv pg_ro (cw κ cs I J W) 101 (.ref y :: as) = true := by
  unfold ex_rcv
  dsimp only
  rw [isS_sh h]
  exact decide_eq_true ⟨rfl, Or.inr ⟨by decide, isS_ro h⟩⟩
/-- calls of a text's methods -/
theorem tt_Cs1 {pc len j mi y : Nat} {k : Int32} {F : Option S} {A : S → Option R} {v : S → Option Value} {w2 : S → ex_W} (hc : (st.map fun v => v.category).sum ≤ 8) (h : (if isS y then F.bind A else none) = some r) (hm : ∀ s, F = some s → tm d mi [.ref y] (cw κ cs I J W) (.inl (v s)) (w2 s)) (g : ∀ s, A s = some r → tt (d + 1) M L lo ((v s).toList ++ st) (w2 s) x w') : tt (d + 1) M ((pc, len, .invokevirtual j, [0, mi, 1, 101], k) :: L) lo (.ref y :: st) (cw κ cs I J W) x w' := by
  by_cases hy : isS y
  · rw [if_pos hy] at h
    refine tt_C 1 lo st (cw κ cs I J W) h (fun n => ?_) hm g
    show ex_inv pg_ro pg_mt (ex_run pg_ro pg_mt n) (d + 1) M.2.2.2.2.2.1 [0, mi, 1, 101] L lo (.ref y :: st) (cw κ cs I J W) = _
    exact (if_pos (c := ((1 : Nat) ≤ (Value.ref y :: st).length ∧ (((Value.ref y :: st).drop 1).map fun v => v.category).sum ≤ 8) ∧ ((0 : Nat) = 2 ∨ (0 : Nat) = 3 ∨ (0 : Nat) = 8 ∨ ex_rcv pg_ro (cw κ cs I J W) 101 ((Value.ref y :: st).take 1).reverse = true)) ⟨⟨Nat.le_add_left 1 st.length, hc⟩, Or.inr (Or.inr (Or.inr (isS_rcv hy [])))⟩).trans rfl
  · rw [if_neg hy] at h
    cases h
theorem tt_Cs2 {pc len j mi y : Nat} {u : Int32} {k : Int32} {F : Option S} {A : S → Option R} {v : S → Option Value} {w2 : S → ex_W} (hc : (st.map fun v => v.category).sum ≤ 8) (h : (if isS y then F.bind A else none) = some r) (hm : ∀ s, F = some s → tm d mi [.ref y, .int u] (cw κ cs I J W) (.inl (v s)) (w2 s)) (g : ∀ s, A s = some r → tt (d + 1) M L lo ((v s).toList ++ st) (w2 s) x w') : tt (d + 1) M ((pc, len, .invokevirtual j, [0, mi, 2, 101], k) :: L) lo (.int u :: .ref y :: st) (cw κ cs I J W) x w' := by
  by_cases hy : isS y
  · rw [if_pos hy] at h
    refine tt_C 1 lo st (cw κ cs I J W) h (fun n => ?_) hm g
    show ex_inv pg_ro pg_mt (ex_run pg_ro pg_mt n) (d + 1) M.2.2.2.2.2.1 [0, mi, 2, 101] L lo (.int u :: .ref y :: st) (cw κ cs I J W) = _
    exact (if_pos (c := ((2 : Nat) ≤ (Value.int u :: Value.ref y :: st).length ∧ (((Value.int u :: Value.ref y :: st).drop 2).map fun v => v.category).sum ≤ 8) ∧ ((0 : Nat) = 2 ∨ (0 : Nat) = 3 ∨ (0 : Nat) = 8 ∨ ex_rcv pg_ro (cw κ cs I J W) 101 ((Value.int u :: Value.ref y :: st).take 2).reverse = true)) ⟨⟨Nat.le_add_left 2 st.length, hc⟩, Or.inr (Or.inr (Or.inr (isS_rcv hy [.int u])))⟩).trans rfl
  · rw [if_neg hy] at h
    cases h
/-- an index that is looked at -/
theorem m_chk (i n : Int32) (h0 : ¬ i < 0) (h1 : i < n) : tm (d + 1) 218 [.int i, .int n] (cw κ cs I J W) (.inl none) (cw κ cs I J W) := by
  refine tm_of me_218 rfl (Nat.le_of_ble_eq_true rfl) ?_
  obtain ⟨k0, fm, tl, T⟩ := κ
  cases fm with
  | none =>
    refine tt_K (v := some (.int i)) 4 [some (.int i), some (.int n)] [] _ (fun _ => rfl) ?_ ⟨2, fun _ => rfl⟩
    refine tm_of me_221 rfl (Nat.le_of_ble_eq_true rfl) ?_
    refine tt_S 2 [some (.int i), some (.int n), some .null] [] _ (fun _ => if_neg h0) ?_
    exact tt_S 3 (L1 := bk_221_2) [some (.int i), some (.int n), some .null] [] _ (fun _ => if_pos h1) ⟨2, fun _ => rfl⟩
  | some z =>
    refine tt_K (v := some (.int i)) 4 [some (.int i), some (.int n)] [] _ (fun _ => rfl) ?_ ⟨2, fun _ => rfl⟩
    refine tm_of me_221 rfl (Nat.le_of_ble_eq_true rfl) ?_
    refine tt_S 2 [some (.int i), some (.int n), some (.ref z)] [] _ (fun _ => if_neg h0) ?_
    exact tt_S 3 (L1 := bk_221_2) [some (.int i), some (.int n), some (.ref z)] [] _ (fun _ => if_pos h1) ⟨2, fun _ => rfl⟩
theorem tt_H (k : Nat) (lo1 : ex_Lo) (rest : List Value) {i n : Int32} {A : Option R} (h : (if ¬ i < 0 ∧ i < n then A else none) = some r) (hs : ∀ m, ex_run pg_ro pg_mt (m + k) (d + 2) M.2.2.2.2.2.1 L lo st w = ex_ret (ex_run pg_ro pg_mt m) (d + 2) M.2.2.2.2.2.1 L1 lo1 rest (ex_me pg_mt (ex_run pg_ro pg_mt m) (d + 1) 218 [.int i, .int n] (cw κ cs I J W))) (g : A = some r → tt (d + 2) M L1 lo1 rest (cw κ cs I J W) x w') : tt (d + 2) M L lo st w x w' := by
  by_cases hc : ¬ i < 0 ∧ i < n
  · rw [if_pos hc] at h
    exact tt_K k lo1 rest (cw κ cs I J W) (v := none) hs (m_chk i n hc.1 hc.2) (g h)
  · rw [if_neg hc] at h
    cases h
/-- by what came -/
def mt2 {α R : Type} (y : α ⊕ Nat) (f : α → Option R) (g : Nat → Option R) : Option R := match y with
  | .inl a => f a
  | .inr e => g e
/-- a call in a method that catches: what is thrown becomes a number that is returned -/
theorem tt_X {α : Type} (k : Nat) (lo1 : ex_Lo) (rest : List Value) (w1 : ex_W) (X : α ⊕ Nat → Option Value ⊕ Nat) (v : α → Option Value) (hX1 : ∀ a, X (.inl a) = .inl (v a)) (hX2 : ∀ e, X (.inr e) = .inr e) {mi : Nat} {as : List Value} {rs : List Nat} {F : Option S} {y : S → α ⊕ Nat} {A : S → α → Option R} {B : S → Nat → Option R} {I2 : S → Nat → Nat → Int32} {J2 : S → Nat → Nat → Int64} {W2 : S → Nat} (h : (F.bind fun s => mt2 (y s) (fun a => A s a) (fun e => B s e)) = some r) (hs : ∀ n, ex_run pg_ro pg_mt (n + k) (d + 1) M.2.2.2.2.2.1 L lo st w = ex_retC (ex_run pg_ro pg_mt n) (d + 1) M.2.2.2.2.2.1 L1 lo1 rest rs (ex_me pg_mt (ex_run pg_ro pg_mt n) d mi as w1)) (hm : ∀ s, F = some s → tm d mi as w1 (X (y s)) (cw κ (xc cs (y s)) (I2 s) (J2 s) (W2 s))) (g : ∀ s a, A s a = some r → tt (d + 1) M L1 lo1 ((v a).toList ++ rest) (cw κ cs (I2 s) (J2 s) (W2 s)) x w') (gc : ∀ s e, B s e = some r → ex_end M.2.2.2.1 (ex_cat M.2.2.2.2.2.1 e (cw κ (cs.1 + 1, cs.2 + 6) (I2 s) (J2 s) (W2 s)) rs) = some (x, w')) : tt (d + 1) M L lo st w x w' := by
  cases F with
  | none => cases h
  | some s =>
    obtain ⟨k1, hm⟩ := hm s rfl
    have h : mt2 (y s) (fun a => A s a) (fun e => B s e) = some r := h
    cases hy : y s with
    | inl a =>
      rw [hy] at hm h
      obtain ⟨k2, g⟩ := g s a h
      refine ⟨k1 + k2 + k, fun n => ?_⟩
      rw [← Nat.add_assoc, hs, show n + (k1 + k2) = n + k2 + k1 by omega, hm, show n + k2 + k1 = n + k1 + k2 by omega, hX1]
      have e : ∀ self : ex_S, ex_retC self (d + 1) M.2.2.2.2.2.1 L1 lo1 rest rs (some (.inl (v a), cw κ cs (I2 s) (J2 s) (W2 s))) = self (d + 1) M.2.2.2.2.2.1 L1 lo1 ((v a).toList ++ rest) (cw κ cs (I2 s) (J2 s) (W2 s)) := by
        intro self
        cases v a with
        | none => rfl
        | some v => rfl
      show ex_end _ (ex_retC _ _ _ _ _ _ _ (some (.inl (v a), cw κ cs (I2 s) (J2 s) (W2 s)))) = _
      rw [e]
      exact g (n + k1)
    | inr e =>
      rw [hy] at hm h
      refine ⟨k1 + k, fun n => ?_⟩
      rw [← Nat.add_assoc, hs, hm, hX2]
      exact gc s e h
end TX
