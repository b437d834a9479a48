/-! Heaps, in numbers: where a place is dealt, how many came before it, where heaps lie -/
/-- the heap of a place: cards, heaps, kind -/
def hp (C H k p : Nat) : Nat := if k = 0 then p % H else if k = 1 then (if p % (2 * H) < H then p % (2 * H) else 2 * H - 1 - p % (2 * H)) else (if p < C % H * (C / H + 1) then p / (C / H + 1) else C % H + (p - C % H * (C / H + 1)) / (C / H))
theorem hp_lt {C H k p : Nat} (hH : 2 ≤ H) (hC : H ≤ C) (hp' : p < C) : hp C H k p < H := by
  unfold hp
  split
  · exact Nat.mod_lt _ (by omega)
  · split
    · have := Nat.mod_lt p (show 0 < 2 * H by omega)
      split <;> omega
    · have hz : 0 < C / H := Nat.div_pos hC (by omega)
      have hl := Nat.mod_lt C (show 0 < H by omega)
      have hd := Nat.div_add_mod C H
      split
      · next h =>
        have : p / (C / H + 1) < C % H := by
          rw [Nat.div_lt_iff_lt_mul (by omega)]
          exact h
        omega
      · next h =>
        have : (p - C % H * (C / H + 1)) / (C / H) < H - C % H := by
          rw [Nat.div_lt_iff_lt_mul hz]
          have e : (H - C % H) * (C / H) = H * (C / H) - C % H * (C / H) := Nat.sub_mul _ _ _
          have e2 : C % H * (C / H + 1) = C % H * (C / H) + C % H := Nat.mul_succ _ _
          have : C % H * (C / H) ≤ H * (C / H) := Nat.mul_le_mul_right _ (by omega)
          omega
        omega
/-- how many of the first p places fall to a heap -/
def ct (C H k : Nat) : Nat → Nat → Nat
  | 0, _ => 0
  | p + 1, h => ct C H k p h + if hp C H k p = h then 1 else 0
theorem ct_le (C H k h : Nat) : ∀ p, ct C H k p h ≤ p
  | 0 => Nat.le_refl 0
  | p + 1 => by
    have := ct_le C H k h p
    rw [ct]
    split <;> omega
theorem ct_mono (C H k h : Nat) : ∀ (d p : Nat), ct C H k p h ≤ ct C H k (p + d) h
  | 0, p => Nat.le_refl _
  | d + 1, p => by
    have := ct_mono C H k h d p
    rw [← Nat.add_assoc, ct]
    omega
theorem ct_lt {C H k p q : Nat} (h : p < q) : ct C H k p (hp C H k p) < ct C H k q (hp C H k p) := by
  have := ct_mono C H k (hp C H k p) (q - (p + 1)) (p + 1)
  rw [show p + 1 + (q - (p + 1)) = q by omega, ct, if_pos rfl] at this
  omega
/-- the sum over a row -/
def sm (f : Nat → Nat) : List Nat → Nat
  | [] => 0
  | x :: L => f x + sm f L
theorem sm_app (f : Nat → Nat) : ∀ L M : List Nat, sm f (L ++ M) = sm f L + sm f M
  | [], M => by rw [List.nil_append, sm, Nat.zero_add]
  | x :: L, M => by rw [List.cons_append, sm, sm, sm_app f L M, Nat.add_assoc]
/-- what lies ahead of x -/
def bef (f : Nat → Nat) : List Nat → Nat → Nat
  | [], _ => 0
  | y :: L, x => if y = x then 0 else f y + bef f L x
theorem bef_in (f : Nat → Nat) {x : Nat} : ∀ L M : List Nat, x ∈ L → bef f (L ++ M) x = bef f L x
  | [], _, h => by cases h
  | y :: L, M, h => by
    rw [List.cons_append, bef, bef]
    by_cases e : y = x
    · rw [if_pos e, if_pos e]
    · rw [if_neg e, if_neg e, bef_in f L M]
      rcases List.mem_cons.mp h with h | h
      · exact absurd h.symm e
      · exact h
theorem bef_out (f : Nat → Nat) {x : Nat} : ∀ L M : List Nat, x ∉ L → bef f (L ++ M) x = sm f L + bef f M x
  | [], _, h => by rw [List.nil_append, sm, Nat.zero_add]
  | y :: L, M, h => by
    have hne : ¬ y = x := fun e => h (by rw [e]; exact List.mem_cons_self)
    rw [List.cons_append, bef, sm, if_neg hne, bef_out f L M (fun e => h (List.mem_cons_of_mem _ e)), Nat.add_assoc]
theorem bef_le (f : Nat → Nat) {x : Nat} : ∀ L : List Nat, x ∈ L → bef f L x + f x ≤ sm f L
  | [], h => by cases h
  | y :: L, h => by
    rw [bef, sm]
    by_cases e : y = x
    · rw [if_pos e, e]
      omega
    · rw [if_neg e]
      have := bef_le f L (by
        rcases List.mem_cons.mp h with h | h
        · exact absurd h.symm e
        · exact h)
      omega
/-- of two, one lies wholly ahead of the other -/
theorem bef_apart (f : Nat → Nat) {x y : Nat} (hne : x ≠ y) : ∀ L : List Nat, x ∈ L → y ∈ L → bef f L x + f x ≤ bef f L y ∨ bef f L y + f y ≤ bef f L x
  | [], h, _ => by cases h
  | z :: L, hx, hy => by
    rw [bef, bef]
    by_cases e1 : z = x
    · rw [if_pos e1, if_neg (fun e => hne (e1.symm.trans e)), e1]
      left
      omega
    · by_cases e2 : z = y
      · rw [if_pos e2, if_neg e1, e2]
        right
        omega
      · rw [if_neg e1, if_neg e2]
        have := bef_apart f hne L (by
          rcases List.mem_cons.mp hx with h | h
          · exact absurd h.symm e1
          · exact h) (by
          rcases List.mem_cons.mp hy with h | h
          · exact absurd h.symm e2
          · exact h)
        omega
/-- the others in their order, below i -/
def oth (a b : Nat) : Nat → List Nat
  | 0 => []
  | i + 1 => if i = a ∨ i = b then oth a b i else oth a b i ++ [i]
theorem oth_mem {a b x : Nat} : ∀ i, x ∈ oth a b i ↔ x < i ∧ x ≠ a ∧ x ≠ b
  | 0 => by
    rw [oth]
    constructor
    · intro h; cases h
    · intro h; omega
  | i + 1 => by
    rw [oth]
    split
    · next e =>
      rw [oth_mem i]
      omega
    · next e =>
      rw [List.mem_append, oth_mem i, List.mem_singleton]
      omega
/-- the pair that is laid -/
def pr (a b : Nat) : List Nat := if a = b then [a] else [a, b]
theorem pr_mem {a b x : Nat} : x ∈ pr a b ↔ x = a ∨ x = b := by
  unfold pr
  split
  · next e =>
    rw [List.mem_singleton]
    omega
  · rw [List.mem_cons, List.mem_singleton]
/-- what lies there when heaps below i are laid -/
def lay (a b l i : Nat) : List Nat := if (oth a b i).length ≤ l then oth a b i else (oth a b i).take l ++ (pr a b ++ (oth a b i).drop l)
/-- all heaps in their order -/
def ord (a b l H : Nat) : List Nat := (oth a b H).take l ++ (pr a b ++ (oth a b H).drop l)
theorem ord_mem {a b l H x : Nat} (ha : a < H) (hb : b < H) : x ∈ ord a b l H ↔ x < H := by
  unfold ord
  rw [List.mem_append, List.mem_append, pr_mem]
  have e : x ∈ oth a b H ↔ x ∈ (oth a b H).take l ∨ x ∈ (oth a b H).drop l := by
    rw [← List.mem_append, List.take_append_drop]
  have := oth_mem (a := a) (b := b) (x := x) H
  constructor
  · rintro (h | (h | h) | h)
    · exact (this.mp (e.mpr (Or.inl h))).1
    · omega
    · omega
    · exact (this.mp (e.mpr (Or.inr h))).1
  · intro h
    by_cases h1 : x = a ∨ x = b
    · exact Or.inr (Or.inl h1)
    · rcases e.mp (this.mpr ⟨h, by omega, by omega⟩) with h | h
      · exact Or.inl h
      · exact Or.inr (Or.inr h)
/-- sums over all heaps -/
def sr (f : Nat → Nat) : Nat → Nat
  | 0 => 0
  | i + 1 => sr f i + f i
theorem sm_oth (f : Nat → Nat) (a b : Nat) : ∀ i, sm f (oth a b i) + (if a < i then f a else 0) + (if b < i ∧ a ≠ b then f b else 0) = sr f i
  | 0 => by simp [oth, sm, sr]
  | i + 1 => by
    have ih := sm_oth f a b i
    rw [oth, sr]
    by_cases h1 : i = a
    · subst h1
      rw [if_pos (Or.inl rfl), if_pos (by omega)]
      rw [if_neg (by omega)] at ih
      by_cases h2 : b < i ∧ i ≠ b
      · rw [if_pos h2] at ih
        rw [if_pos (by omega)]
        omega
      · rw [if_neg h2] at ih
        rw [if_neg (by omega)]
        omega
    · by_cases h2 : i = b
      · subst h2
        rw [if_pos (Or.inr rfl)]
        rw [if_neg (show ¬ (i < i ∧ a ≠ i) by omega)] at ih
        rw [if_pos (show i < i + 1 ∧ a ≠ i by omega)]
        by_cases h3 : a < i
        · rw [if_pos h3] at ih
          rw [if_pos (by omega)]
          omega
        · rw [if_neg h3] at ih
          rw [if_neg (by omega)]
          omega
      · rw [if_neg (by omega), sm_app, sm, sm]
        by_cases h3 : a < i
        · rw [if_pos h3] at ih
          rw [if_pos (show a < i + 1 by omega)]
          by_cases h4 : b < i ∧ a ≠ b
          · rw [if_pos h4] at ih
            rw [if_pos (show b < i + 1 ∧ a ≠ b by omega)]
            omega
          · rw [if_neg h4] at ih
            rw [if_neg (show ¬ (b < i + 1 ∧ a ≠ b) by omega)]
            omega
        · rw [if_neg h3] at ih
          rw [if_neg (show ¬ a < i + 1 by omega)]
          by_cases h4 : b < i ∧ a ≠ b
          · rw [if_pos h4] at ih
            rw [if_pos (show b < i + 1 ∧ a ≠ b by omega)]
            omega
          · rw [if_neg h4] at ih
            rw [if_neg (show ¬ (b < i + 1 ∧ a ≠ b) by omega)]
            omega
theorem sm_ord (f : Nat → Nat) {a b l H : Nat} (ha : a < H) (hb : b < H) : sm f (ord a b l H) = sr f H := by
  have h := sm_oth f a b H
  unfold ord
  have e : sm f (oth a b H) = sm f ((oth a b H).take l) + sm f ((oth a b H).drop l) := by
    rw [← sm_app, List.take_append_drop]
  rw [sm_app, sm_app]
  rw [if_pos ha] at h
  unfold pr
  by_cases e2 : a = b
  · rw [if_neg (by omega)] at h
    rw [if_pos e2, sm, sm]
    omega
  · rw [if_pos ⟨hb, e2⟩] at h
    rw [if_neg e2, sm, sm, sm]
    omega
theorem sr_add (f g : Nat → Nat) : ∀ i, sr (fun h => f h + g h) i = sr f i + sr g i
  | 0 => rfl
  | i + 1 => by
    rw [sr, sr, sr, sr_add f g i]
    omega
theorem sr_one {x : Nat} : ∀ i, sr (fun h => if x = h then 1 else 0) i = if x < i then 1 else 0
  | 0 => by simp [sr]
  | i + 1 => by
    rw [sr, sr_one i]
    by_cases h : x = i
    · rw [if_pos h, if_neg (by omega), if_pos (by omega)]
    · rw [if_neg h]
      by_cases h2 : x < i
      · rw [if_pos h2, if_pos (by omega)]
      · rw [if_neg h2, if_neg (by omega)]
/-- all cards lie in some heap -/
theorem sr_ct {C H k : Nat} (hH : 2 ≤ H) (hC : H ≤ C) : ∀ p, p ≤ C → sr (ct C H k p) H = p
  | 0, _ => by
    have : ∀ i, sr (ct C H k 0) i = 0 := by
      intro i
      induction i with
      | zero => rfl
      | succ i ih => rw [sr, ih, ct]
    exact this H
  | p + 1, h => by
    have e : ct C H k (p + 1) = fun h => ct C H k p h + (fun h => if hp C H k p = h then 1 else 0) h := by
      funext h
      rw [ct]
    rw [e, sr_add, sr_ct hH hC p (by omega), sr_one, if_pos (hp_lt hH hC (by omega))]
/-- how far down in its heap a card lies: side 0 under, 1 over -/
def off (C H k s p : Nat) : Nat := if s = 1 then ct C H k C (hp C H k p) - 1 - ct C H k p (hp C H k p) else ct C H k p (hp C H k p)
theorem off_lt {C H k s p : Nat} (h : p < C) : off C H k s p < ct C H k C (hp C H k p) := by
  have := ct_lt (C := C) (H := H) (k := k) h
  unfold off
  split <;> omega
theorem off_inj {C H k s p q : Nat} (hp' : p < C) (hq : q < C) (e : hp C H k p = hp C H k q) (h : off C H k s p = off C H k s q) : p = q := by
  have h1 := ct_lt (C := C) (H := H) (k := k) hp'
  have h2 := ct_lt (C := C) (H := H) (k := k) hq
  rcases Nat.lt_trichotomy p q with hl | hl | hl
  · have := ct_lt (C := C) (H := H) (k := k) hl
    unfold off at h
    rw [e] at h h1 this
    split at h <;> omega
  · exact hl
  · have := ct_lt (C := C) (H := H) (k := k) hl
    unfold off at h
    rw [e] at h h1
    split at h <;> omega
/-- where a place goes: kind, side, laying, the two that are laid -/
def np (C H k s l a b p : Nat) : Nat := bef (ct C H k C) (ord a b l H) (hp C H k p) + off C H k s p
theorem np_lt {C H k s l a b p : Nat} (hH : 2 ≤ H) (hC : H ≤ C) (ha : a < H) (hb : b < H) (h : p < C) : np C H k s l a b p < C := by
  have h1 := off_lt (H := H) (k := k) (s := s) h
  have h2 := bef_le (ct C H k C) (ord a b l H) ((ord_mem ha hb).mpr (hp_lt (k := k) hH hC h))
  rw [sm_ord _ ha hb, sr_ct hH hC C (Nat.le_refl C)] at h2
  unfold np
  omega
theorem np_inj {C H k s l a b p q : Nat} (hH : 2 ≤ H) (hC : H ≤ C) (ha : a < H) (hb : b < H) (h1 : p < C) (h2 : q < C) (e : np C H k s l a b p = np C H k s l a b q) : p = q := by
  have o1 := off_lt (H := H) (k := k) (s := s) h1
  have o2 := off_lt (H := H) (k := k) (s := s) h2
  unfold np at e
  by_cases h : hp C H k p = hp C H k q
  · rw [h] at e
    exact off_inj (s := s) h1 h2 h (by omega)
  · rcases bef_apart (ct C H k C) h (ord a b l H) ((ord_mem ha hb).mpr (hp_lt hH hC h1)) ((ord_mem ha hb).mpr (hp_lt hH hC h2)) with h | h <;> omega
/-- where a followed place goes -/
def fw (C H k s : Nat) (ly : Nat → Nat) (p : Nat) : Nat := np C H k s (ly (hp C H k p)) (hp C H k p) (hp C H k p) p
theorem fw_lt {C H k s p : Nat} {ly : Nat → Nat} (hH : 2 ≤ H) (hC : H ≤ C) (h : p < C) : fw C H k s ly p < C := np_lt hH hC (hp_lt hH hC h) (hp_lt hH hC h) h
