/-! worst -/
/-- the greatest over the first R -/
def mr (f : Nat → Nat) : Nat → Nat
  | 0 => 0
  | r + 1 => max (mr f r) (f r)
theorem mr_le {f : Nat → Nat} {b : Nat} : ∀ R, mr f R ≤ b ↔ ∀ r, r < R → f r ≤ b
  | 0 => ⟨fun _ r h => absurd h (Nat.not_lt_zero _), fun _ => Nat.zero_le _⟩
  | R + 1 => by
    rw [mr, Nat.max_le, mr_le R]
    constructor
    · rintro ⟨h1, h2⟩ r hr
      by_cases w : r = R
      · rw [w]; exact h2
      · exact h1 r (by omega)
    · intro h
      exact ⟨fun r hr => h r (by omega), h R (by omega)⟩
theorem mr_split {f : Nat → Nat} {H T : Nat} (hH : 0 < H) : mr f (H * T) = mr (fun h => mr (fun t => f (H * t + h)) T) H := by
  apply Nat.le_antisymm
  · rw [mr_le]
    intro r hr
    have h1 : r / H < T := Nat.div_lt_of_lt_mul hr
    have h2 := Nat.mod_lt r hH
    have e : f r = (fun t => f (H * t + r % H)) (r / H) := by
      dsimp only
      rw [Nat.div_add_mod]
    rw [e]
    have a := (mr_le (f := fun t => f (H * t + r % H)) (b := mr (fun t => f (H * t + r % H)) T) T).mp (Nat.le_refl _) (r / H) h1
    have b := (mr_le (f := fun h => mr (fun t => f (H * t + h)) T) (b := mr (fun h => mr (fun t => f (H * t + h)) T) H) H).mp (Nat.le_refl _) (r % H) h2
    exact Nat.le_trans a b
  · rw [mr_le]
    intro h hh
    rw [mr_le]
    intro t ht
    refine (mr_le (f := f) (H * T)).mp (Nat.le_refl _) _ ?_
    have : H * (t + 1) ≤ H * T := Nat.mul_le_mul_left H ht
    rw [Nat.mul_succ] at this
    omega
section WO
variable (C H R M : Nat) (K S : Nat → Nat) (Y : Nat → Nat → Nat)
/-- a card on the way: its place, how often it was false -/
def stp (k h : Nat) (x : Nat × Nat) : Nat × Nat := (np C H (K (k % R)) (S (k % R)) (Y (k % R) h) h h x.1, x.2 + if hp C H (K (k % R)) x.1 = h then 0 else 1)
def stL (k h : Nat) : List (Nat × Nat) → List (Nat × Nat)
  | [] => []
  | x :: L => if (stp C H R K S Y k h x).2 ≤ M then stp C H R K S Y k h x :: stL k h L else stL k h L
/-- the most that may be left -/
def mx : Nat → Nat → List (Nat × Nat) → Nat
  | 0, _, L => L.length
  | j + 1, k, L => mr (fun h => mx j (k + 1) (stL C H R M K S Y k h L)) H
def run : Nat → Nat → Nat → List (Nat × Nat) → List (Nat × Nat)
  | 0, _, _, L => L
  | j + 1, k, r, L => run j (k + 1) (r / H) (stL C H R M K S Y k (r % H) L)
end WO
section WP
variable {C H R M : Nat} {K S : Nat → Nat} {Y : Nat → Nat → Nat}
theorem stL_app (k h : Nat) : ∀ (L L' : List (Nat × Nat)), stL C H R M K S Y k h (L ++ L') = stL C H R M K S Y k h L ++ stL C H R M K S Y k h L'
  | [], L' => rfl
  | x :: L, L' => by
    rw [List.cons_append, stL, stL, stL_app k h L L']
    split
    · rw [List.cons_append]
    · rfl
theorem stL_len (k h : Nat) : ∀ L : List (Nat × Nat), (stL C H R M K S Y k h L).length ≤ L.length
  | [] => Nat.le_refl _
  | x :: L => by
    have := stL_len k h L
    rw [stL]
    split
    · rw [List.length_cons, List.length_cons]; omega
    · rw [List.length_cons]; omega
theorem mx_len : ∀ (j k : Nat) (L : List (Nat × Nat)), mx C H R M K S Y j k L ≤ L.length
  | 0, _, _ => Nat.le_refl _
  | j + 1, k, L => by
    rw [mx, mr_le]
    intro h _
    exact Nat.le_trans (mx_len j (k + 1) _) (stL_len k h L)
theorem mx_run (hH : 0 < H) : ∀ (j k : Nat) (L : List (Nat × Nat)), mx C H R M K S Y j k L = mr (fun r => (run C H R M K S Y j k r L).length) (H ^ j)
  | 0, k, L => by
    rw [mx, Nat.pow_zero, mr, mr, run]
    omega
  | j + 1, k, L => by
    rw [mx, Nat.pow_succ, Nat.mul_comm, mr_split hH]
    have : ∀ h, h < H → mx C H R M K S Y j (k + 1) (stL C H R M K S Y k h L) = mr (fun t => (run C H R M K S Y (j + 1) k (H * t + h) L).length) (H ^ j) := by
      intro h hh
      rw [mx_run hH j (k + 1)]
      congr 1
      funext t
      rw [run, Nat.mul_add_mod, Nat.mod_eq_of_lt hh, Nat.mul_add_div hH, Nat.div_eq_of_lt hh]
      rfl
    have ext : ∀ (f g : Nat → Nat) (T : Nat), (∀ x, x < T → f x = g x) → mr f T = mr g T := by
      intro f g T
      induction T with
      | zero => intro _; rfl
      | succ T ih => intro e; rw [mr, mr, ih (fun x hx => e x (by omega)), e T (by omega)]
    exact ext _ _ H this
/-- all cards, none left out -/
def nst (k h : Nat) (X : Nat → Nat × Nat) : Nat → Nat × Nat := fun c => stp C H R K S Y k h (X c)
def FlL (M : Nat) (X : Nat → Nat × Nat) : Nat → List (Nat × Nat)
  | 0 => []
  | c + 1 => FlL M X c ++ (if (X c).2 ≤ M then [X c] else [])
theorem FlL_st (k h : Nat) (X : Nat → Nat × Nat) : ∀ n, stL C H R M K S Y k h (FlL M X n) = FlL M (fun c => stp C H R K S Y k h (X c)) n
  | 0 => rfl
  | n + 1 => by
    rw [FlL, FlL, stL_app, FlL_st k h X n]
    congr 1
    have mono : (X n).2 ≤ (stp C H R K S Y k h (X n)).2 := Nat.le_add_right _ _
    by_cases q : (X n).2 ≤ M
    · rw [if_pos q, stL, stL]
    · rw [if_neg q, stL, if_neg (by omega)]
/-- all cards by a row of names -/
def rnF : Nat → Nat → Nat → (Nat → Nat × Nat) → Nat → Nat × Nat
  | 0, _, _, X => X
  | j + 1, k, r, X => rnF j (k + 1) (r / H) (fun c => stp C H R K S Y k (r % H) (X c))
theorem run_F : ∀ (j k r n : Nat) (X : Nat → Nat × Nat), run C H R M K S Y j k r (FlL M X n) = FlL M (rnF (C := C) (H := H) (R := R) (K := K) (S := S) (Y := Y) j k r X) n
  | 0, _, _, _, _ => rfl
  | j + 1, k, r, n, X => by
    rw [run, FlL_st, run_F j (k + 1) (r / H) n, rnF]
theorem FlL_fit (X : Nat → Nat × Nat) : ∀ n, (FlL M X n).length = fitN M (fun c => (X c).2) n
  | 0 => rfl
  | n + 1 => by
    rw [FlL, List.length_append, FlL_fit X n, fitN]
    congr 1
    by_cases q : (X n).2 ≤ M
    · rw [if_pos q, if_neg (by omega)]; rfl
    · rw [if_neg q, if_pos (by omega)]; rfl
end WP
section WC
variable {C H N M w : Nat} {K S : Nat → Nat} {Y : Nat → Nat → Nat} {I : Nat → Nat → Int32}
/-- the class's row of cards that still may be -/
def AR (C M k : Nat) (L : List (Nat × Nat)) (I : Nat → Nat → Int32) : Prop := L.length ≤ 60 ∧ ∀ i, i < L.length → (L.getD i (0, 0)).1 < C ∧ (L.getD i (0, 0)).2 ≤ M ∧ I 86 (k * 60 + i) = nI ((L.getD i (0, 0)).2 * 64 + (L.getD i (0, 0)).1)
theorem take_s {α : Type} (L : List α) (d : α) {i : Nat} (h : i < L.length) : L.take (i + 1) = L.take i ++ [L.getD i d] := by
  rw [List.take_succ, List.getD_eq_getElem?_getD, List.getElem?_eq_getElem h]
  rfl
theorem f14_in {k h : Nat} {L : List (Nat × Nat)} (hC : CH C H) (hk : k < 6) (hh : h < H) (hM : M ≤ 2) : ∀ (j i m : Nat) (I : Nat → Nat → Int32), i + j = L.length → j < m → SetP C H N M w K S Y I → DK C H (K (k % max N 1)) (S (k % max N 1)) I → SS H (bef (ct C H (K (k % max N 1)) C) (ord h h (Y (k % max N 1) h) H)) I → AR C M k L I → AR C M (k + 1) (stL C H (max N 1) M K S Y k h (L.take i)) I → ∃ I', fx (fun _ _ _ _ _ _ => none) bd_14_1 m (nI k) (nI L.length) (nI h) (nI (stL C H (max N 1) M K S Y k h (L.take i)).length) (nI i) I = some (nI (stL C H (max N 1) M K S Y k h L).length, I') ∧ AR C M (k + 1) (stL C H (max N 1) M K S Y k h L) I' ∧ Fr [86] I I' ∧ (∀ y, y < (k + 1) * 60 → I' 86 y = I 86 y) := by
  intro j
  induction j with
  | zero =>
    intro i m I e hm hS hd hs hA hB
    cases m with
    | zero => omega
    | succ m =>
      have l60 := hA.1
      obtain rfl : i = L.length := by omega
      rw [List.take_length] at hB ⊢
      refine ⟨I, ?_, hB, Fr.refl _ _, fun _ _ => rfl⟩
      rw [fx_s, bd_14_1, if_neg (Int32.lt_irrefl (a := nI L.length))]
  | succ j ih =>
    intro i m I e hm hS hd hs hA hB
    cases m with
    | zero => omega
    | succ m =>
      obtain ⟨c1, c2, c3, c4⟩ := hC
      have hC' : CH C H := ⟨c1, c2, c3, c4⟩
      have l60 := hA.1
      have hi : i < L.length := by omega
      obtain ⟨x1, x2, x3⟩ := hA.2 i hi
      generalize hx : L.getD i (0, 0) = x at x1 x2 x3
      have k3 := hS.k3 (Nat.mod_lt k (show 0 < max N 1 by omega))
      have s2 := hS.s2 (Nat.mod_lt k (show 0 < max N 1 by omega))
      have hl := hp_lt (k := K (k % max N 1)) c1 c3 x1
      have sl := stL_len (C := C) (H := H) (R := max N 1) (M := M) (K := K) (S := S) (Y := Y) k h (L.take i)
      rw [List.length_take] at sl
      have i6 : I 79 6 = nI M := hS.2.2.2.2.2.1.2.2.1
      have one : atf (I 86) 420 (nI k * (60 : Int32) + nI i) = nI (x.2 * 64 + x.1) := by
        have e1 : nI k * (60 : Int32) + nI i = nI (k * 60 + i) := by
          rw [show (60 : Int32) = nI 60 from rfl, mulN, addN]
        rw [e1, atN (by omega) (by decide), x3]
      have rem : nI (x.2 * 64 + x.1) - nI (x.2 * 64 + x.1) / (64 : Int32) * (64 : Int32) = nI x.1 := by
        have := remN (a := x.2 * 64 + x.1) (b := 64) (by omega) (by decide) (by decide)
        rw [show (x.2 * 64 + x.1) % 64 = x.1 by omega] at this
        exact this
      have quo : nI (x.2 * 64 + x.1) / (64 : Int32) = nI x.2 := by
        have := divN (a := x.2 * 64 + x.1) (b := 64) (by omega) (by decide) (by decide)
        rw [show (x.2 * 64 + x.1) / 64 = x.2 by omega] at this
        exact this
      have g8 := f8_s hC' k3 hd x1
      have g10 : f_10 (nI x.1) I = some (nI (stp C H (max N 1) K S Y k h x).1) := f10_s hC' k3 s2 hd hs x1
      have nlt : (stp C H (max N 1) K S Y k h x).1 < C := np_lt c1 c3 hh hh x1
      have stk : stL C H (max N 1) M K S Y k h (L.take (i + 1)) = stL C H (max N 1) M K S Y k h (L.take i) ++ (if (stp C H (max N 1) K S Y k h x).2 ≤ M then [stp C H (max N 1) K S Y k h x] else []) := by
        rw [take_s L (0, 0) hi, stL_app, hx, stL]
        split <;> rfl
      have head : fx (fun _ _ _ _ _ _ => none) bd_14_1 (m + 1) (nI k) (nI L.length) (nI h) (nI (stL C H (max N 1) M K S Y k h (L.take i)).length) (nI i) I = if M < (stp C H (max N 1) K S Y k h x).2 then fx (fun _ _ _ _ _ _ => none) bd_14_1 m (nI k) (nI L.length) (nI h) (nI (stL C H (max N 1) M K S Y k h (L.take i)).length) (nI (i + 1)) I else fx (fun _ _ _ _ _ _ => none) bd_14_1 m (nI k) (nI L.length) (nI h) (nI ((stL C H (max N 1) M K S Y k h (L.take i)).length + 1)) (nI (i + 1)) (up I 86 ((k + 1) * 60 + (stL C H (max N 1) M K S Y k h (L.take i)).length) (nI ((stp C H (max N 1) K S Y k h x).2 * 64 + (stp C H (max N 1) K S Y k h x).1))) := by
        rw [fx_s, bd_14_1, if_pos ((ltN (by omega) (by omega)).mpr hi), one, rem, quo, g8, Option.bind_some]
        unfold lb_14_3 lb_14_4
        have e2 : (stp C H (max N 1) K S Y k h x).2 = x.2 + if hp C H (K (k % max N 1)) x.1 = h then 0 else 1 := rfl
        by_cases q : hp C H (K (k % max N 1)) x.1 = h
        · rw [if_pos q, Nat.add_zero] at e2
          rw [if_pos ((eqN (by omega) (by omega)).mpr q), e2, g10]
          simp (disch := omega) only [i6, lits, addN, Nat.add_zero, ltN, mulN, puN, Option.bind_some]
        · rw [if_neg q] at e2
          rw [if_neg (fun z => q ((eqN (by omega) (by omega)).mp z)), e2, g10]
          simp (disch := omega) only [i6, lits, addN, ltN, mulN, puN, Option.bind_some]
      by_cases q : (stp C H (max N 1) K S Y k h x).2 ≤ M
      · rw [if_pos q] at stk
        have len : (stL C H (max N 1) M K S Y k h (L.take (i + 1))).length = (stL C H (max N 1) M K S Y k h (L.take i)).length + 1 := by
          rw [stk, List.length_append, List.length_singleton]
        have fr1 : Fr [86] I (up I 86 ((k + 1) * 60 + (stL C H (max N 1) M K S Y k h (L.take i)).length) (nI ((stp C H (max N 1) K S Y k h x).2 * 64 + (stp C H (max N 1) K S Y k h x).1))) := (Fr.refl _ _).up (by decide)
        obtain ⟨I', a1, a2, a3, a4⟩ := ih (i + 1) m _ (by omega) (by omega) (hS.keep (Keep.fr fr1 (by decide))) (hd.fr fr1 (by decide) (by decide) (by decide) (by decide)) (fun y hy => by rw [fr1 78 (by decide)]; exact hs y hy) ⟨l60, fun y hy => by
            obtain ⟨y1, y2, y3⟩ := hA.2 y hy
            refine ⟨y1, y2, ?_⟩
            rw [up_nk (by omega)]
            exact y3⟩ ⟨by omega, fun y hy => by
            rw [stk]
            by_cases z : y = (stL C H (max N 1) M K S Y k h (L.take i)).length
            · rw [z, List.getD_eq_getElem?_getD, List.getElem?_append_right (Nat.le_refl _), Nat.sub_self]
              refine ⟨nlt, q, ?_⟩
              rw [up_at]
              rfl
            · have hy' : y < (stL C H (max N 1) M K S Y k h (L.take i)).length := by omega
              obtain ⟨y1, y2, y3⟩ := hB.2 y hy'
              rw [List.getD_eq_getElem?_getD] at y1 y2 y3
              rw [List.getD_eq_getElem?_getD, List.getElem?_append_left hy']
              refine ⟨y1, y2, ?_⟩
              rw [up_nk (by omega)]
              exact y3⟩
        refine ⟨I', ?_, a2, fr1.trans a3, fun y hy => ?_⟩
        · rw [head, if_neg (by omega), ← len]
          exact a1
        · rw [a4 y hy, up_nk (by omega)]
      · rw [if_neg q, List.append_nil] at stk
        obtain ⟨I', a1, a2, a3, a4⟩ := ih (i + 1) m I (by omega) (by omega) hS hd hs hA (by rw [stk]; exact hB)
        refine ⟨I', ?_, a2, a3, a4⟩
        rw [head, if_pos (by omega), ← stk]
        exact a1
end WC
