/-! the model's next token -/
def om (x : Nat) : Nat := [4, 3, 1, 0, 5, 6, 2, 7, 8, 9, 10, 11, 12, 14, 13, 15].getD x 16
def mo (w : Nat) : Nat := [3, 2, 6, 1, 0, 4, 5, 7, 8, 9, 10, 11, 12, 14, 13, 15].getD w 16
def mpk (x : Nat) : Nat := pkl (fun i => (wtx (om x)).getD i 0) 0 (wtx (om x)).length
/-- the model's number of a word -/
def mw (W : Nat) : Int32 := if W = 17 then -1 else nI (mo (W - 1))
def mfd (P : Nat) : Nat → Nat → Int32
  | 0, _ => -1
  | j + 1, x => if mpk x = P then nI x else mfd P j (x + 1)
theorem mfd_none {P : Nat} : ∀ j x, (∀ y, x ≤ y → y < x + j → mpk y ≠ P) → mfd P j x = -1
  | 0, _, _ => rfl
  | j + 1, x, h => by
    rw [mfd, if_neg (h x (Nat.le_refl x) (by omega))]
    exact mfd_none j (x + 1) (fun y h1 h2 => h y (by omega) (by omega))
theorem mfd_some : ∀ w, w < 16 → mfd (mpk (mo w)) 16 0 = nI (mo w) ∧ om (mo w) = w := by decide +kernel
theorem om_lt : ∀ x, x < 16 → om x < 16 := by decide
theorem f142_s : ∀ x, x < 16 → f_142 (nI x) = some (lN (mpk x)) ∧ mpk x < 33554432 := by decide +kernel
theorem pkl_inj {t u : Nat → Nat} {s r : Nat} : ∀ n m, (∀ x, x < n → isLe (t (s + x))) → (∀ x, x < m → isLe (u (r + x))) → pkl t s n = pkl u r m → n = m ∧ ∀ x, x < n → t (s + x) = u (r + x)
  | 0, 0, _, _, _ => ⟨rfl, fun x hx => absurd hx (Nat.not_lt_zero x)⟩
  | 0, m + 1, _, h2, e => by
    have := (h2 m (by omega)).1
    rw [pkl, pkl] at e
    omega
  | n + 1, 0, h1, _, e => by
    have := (h1 n (by omega)).1
    rw [pkl, pkl] at e
    omega
  | n + 1, m + 1, h1, h2, e => by
    obtain ⟨a1, a2⟩ := h1 n (by omega)
    obtain ⟨b1, b2⟩ := h2 m (by omega)
    rw [pkl, pkl] at e
    obtain ⟨c1, c2⟩ := pkl_inj n m (fun x hx => h1 x (by omega)) (fun x hx => h2 x (by omega)) (by omega)
    refine ⟨by omega, fun x hx => ?_⟩
    by_cases z : x = n
    · rw [z]
      rw [c1] at a1 a2 e ⊢
      omega
    · exact c2 x (by omega)
theorem pkl_eq {t u : Nat → Nat} {s r : Nat} : ∀ n, (∀ x, x < n → t (s + x) = u (r + x)) → pkl t s n = pkl u r n
  | 0, _ => rfl
  | n + 1, h => by rw [pkl, pkl, pkl_eq n (fun x hx => h x (by omega)), h n (by omega)]
theorem pkl_lt {t : Nat → Nat} {s : Nat} : ∀ n, (∀ x, x < n → isLe (t (s + x))) → pkl t s n < 32 ^ n
  | 0, _ => by rw [pkl]; decide
  | n + 1, h => by
    have ih := pkl_lt n (fun x hx => h x (by omega))
    have l := (h n (by omega)).2
    rw [pkl, Nat.pow_succ]
    omega
theorem wtx_isLe {w : Nat} (hw : w < 17) {i : Nat} (hi : i < (wtx w).length) : isLe ((wtx w).getD i 0) := by
  obtain ⟨l1, l2⟩ := wtx_le w hw i hi
  exact ⟨by omega, by omega⟩
/-- both find the same word -/
theorem word_both {t : Nat → Nat} {s n W : Nat} (hn : n ≤ 5) (h1 : 1 ≤ n) (hl : ∀ x, x < n → isLe (t (s + x))) (h : WR t s n W) : mfd (pkl t s n) 16 0 = mw W := by
  rcases h with ⟨rfl, h⟩ | ⟨w, hw, rfl, h⟩
  · rw [mw, if_pos rfl]
    refine mfd_none 16 0 (fun y _ hy e => ?_)
    have o := om_lt y (by omega)
    have i := pkl_inj (t := t) (s := s) (u := fun i => (wtx (om y)).getD i 0) (r := 0) n (wtx (om y)).length hl (fun x hx => by
      rw [Nat.zero_add]
      exact wtx_isLe (by omega) hx) e.symm
    refine h (om y) (by omega) ⟨i.1, fun x hx => ?_⟩
    have := i.2 x hx
    rw [Nat.zero_add] at this
    exact this
  · have w16 : w ≠ 16 := fun v => by
      rw [v] at h
      have := h.1
      have l0 : (wtx 16).length = 0 := rfl
      omega
    obtain ⟨a1, a2⟩ := mfd_some w (by omega)
    have e : pkl t s n = mpk (mo w) := by
      rw [mpk, a2, ← h.1]
      exact pkl_eq n (fun x hx => by rw [Nat.zero_add]; exact h.2 x hx)
    rw [e, a1, mw, if_neg (by omega), Nat.add_sub_cancel_left]
theorem cmpL {a b : Nat} (ha : a < 9223372036854775808) (hb : b < 9223372036854775808) : (lg_cmp (lN a) (lN b) = 0) ↔ a = b := by
  have i1 : (lN a).toInt = a := by
    have := wb_tn (n := a) (by omega)
    rw [Int64.toInt, BitVec.toInt_eq_toNat_of_lt (by rw [this]; omega), this]
  have i2 : (lN b).toInt = b := by
    have := wb_tn (n := b) (by omega)
    rw [Int64.toInt, BitVec.toInt_eq_toNat_of_lt (by rw [this]; omega), this]
  unfold lg_cmp
  by_cases q : a = b
  · subst q
    rw [if_neg (Int64.lt_irrefl), if_pos rfl]
    exact ⟨fun _ => rfl, fun _ => rfl⟩
  · have ne : ¬ lN a = lN b := fun z => q (by have := congrArg Int64.toInt z; omega)
    by_cases l : lN b < lN a
    · rw [if_pos l]
      exact ⟨fun h => absurd h (by decide), fun h => absurd h q⟩
    · rw [if_neg l, if_neg ne]
      exact ⟨fun h => absurd h (by decide), fun h => absurd h q⟩
theorem f143_3 {P : Nat} {I : Nat → Nat → Int32} {J : Nat → Nat → Int64} (hP : P < 9223372036854775808) (hJ : J 97 22 = lN P) : ∀ (j x m : Nat), x + j = 16 → j < m → fx (fun _ _ _ => none) bd_143_3 m (nI x) I J = some (mfd P j x) := by
  intro j
  induction j with
  | zero =>
    intro x m e hm
    cases m with
    | zero => omega
    | succ m =>
      obtain rfl : x = 16 := by omega
      rw [fx_s, bd_143_3, if_neg (show ¬ nI 16 < (16 : Int32) by decide)]
      rfl
  | succ j ih =>
    intro x m e hm
    cases m with
    | zero => omega
    | succ m =>
      obtain ⟨a1, a2⟩ := f142_s x (by omega)
      have one : nI x + (1 : Int32) = nI (x + 1) := addN x 1
      rw [fx_s, bd_143_3, if_pos (show nI x < (16 : Int32) from (ltN (b := 16) (by omega) (by decide)).mpr (by omega)), a1, Option.bind_some, hJ, mfd]
      by_cases q : mpk x = P
      · rw [if_pos ((cmpL (by omega) hP).mpr q), if_pos q]
      · rw [if_neg (fun z => q ((cmpL (by omega) hP).mp z)), if_neg q, one]
        exact ih (x + 1) m (by omega) (by omega)
