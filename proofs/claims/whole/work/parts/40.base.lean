/-! Base of the pure part: numbers, cells, frames -/
theorem pw31 : (2147483648 : Nat) = 2 ^ 31 := by decide
theorem lits : (0 : Int32) = nI 0 ∧ (1 : Int32) = nI 1 ∧ (2 : Int32) = nI 2 ∧ (3 : Int32) = nI 3 ∧ (4 : Int32) = nI 4 ∧ (5 : Int32) = nI 5 ∧ (6 : Int32) = nI 6 ∧ (7 : Int32) = nI 7 ∧ (8 : Int32) = nI 8 ∧ (9 : Int32) = nI 9 ∧ (10 : Int32) = nI 10 ∧ (11 : Int32) = nI 11 ∧ (12 : Int32) = nI 12 ∧ (13 : Int32) = nI 13 ∧ (14 : Int32) = nI 14 ∧ (15 : Int32) = nI 15 ∧ (16 : Int32) = nI 16 ∧ (20 : Int32) = nI 20 ∧ (59 : Int32) = nI 59 ∧ (60 : Int32) = nI 60 ∧ (64 : Int32) = nI 64 ∧ (500 : Int32) = nI 500 ∧ (1000 : Int32) = nI 1000 ∧ (5000 : Int32) = nI 5000 :=
  ⟨rfl, rfl, rfl, rfl, rfl, rfl, rfl, rfl, rfl, rfl, rfl, rfl, rfl, rfl, rfl, rfl, rfl, rfl, rfl, rfl, rfl, rfl, rfl, rfl⟩
theorem ltN {a b : Nat} (ha : a < 2147483648) (hb : b < 2147483648) : nI a < nI b ↔ a < b := nI_ltI (pw31 ▸ ha) (pw31 ▸ hb)
theorem eqN {a b : Nat} (ha : a < 2147483648) (hb : b < 2147483648) : nI a = nI b ↔ a = b := nI_eq (pw31 ▸ ha) (pw31 ▸ hb)
theorem subN {a b : Nat} (h : b ≤ a) : nI a - nI b = nI (a - b) := pk_sub h
theorem divN {a b : Nat} (ha : a < 2147483648) (h0 : 0 < b) (hb : b < 2147483648) : nI a / nI b = nI (a / b) := pk_div (pw31 ▸ ha) h0 (pw31 ▸ hb)
theorem remN {a b : Nat} (ha : a < 2147483648) (h0 : 0 < b) (hb : b < 2147483648) : nI a - nI a / nI b * nI b = nI (a % b) := pk_rem (pw31 ▸ ha) h0 (pw31 ▸ hb)
theorem clN {a : Nat} (ha : a < 2147483648) : (nI a).toNatClampNeg = a := nI_clamp (pw31 ▸ ha)
theorem inN {a n : Nat} (ha : a < 2147483648) : ex_in (nI a) n ↔ a < n := by
  unfold ex_in
  rw [clN ha]
  constructor
  · exact fun h => h.2
  · exact fun h => ⟨nI_pos (pw31 ▸ ha), h⟩
theorem atN {f : Nat → Int32} {a n : Nat} (h : a < n) (hn : n < 2147483648) : atf f n (nI a) = f a := by
  unfold atf
  rw [if_pos ((inN (by omega)).mpr h), clN (by omega)]
theorem puN {I : Nat → Nat → Int32} {t a n : Nat} {v : Int32} (h : a < n) (hn : n < 2147483648) : putf I t n (nI a) v = up I t a v := by
  unfold putf
  rw [if_pos ((inN (by omega)).mpr h), clN (by omega)]
theorem m1N {a : Nat} (h : 0 < a) : nI a + (-nI 1) = nI (a - 1) := sb_m1 h
theorem addN (a b : Nat) : nI a + nI b = nI (a + b) := nI_add a b
theorem mulN (a b : Nat) : nI a * nI b = nI (a * b) := pk_mul a b
theorem negN {a : Nat} (ha : a < 2147483648) : ¬ nI a < nI 0 := by
  rw [ltN ha (by omega)]
  omega
theorem ne1N {a : Nat} (ha : a < 2147483648) : ¬ nI a = -nI 1 := by
  intro h
  have h2 := congrArg Int32.toInt h
  rw [nI_toInt (pw31 ▸ ha)] at h2
  have : (-nI 1).toInt = -1 := by decide
  omega
/-- reading what was set -/
theorem up_ne {α : Type} {I : Nat → Nat → α} {a b k : Nat} {v : α} (h : b ≠ a) : up I a k v b = I b := by
  unfold up ex_set
  rw [if_neg h]
theorem up_eq {α : Type} {I : Nat → Nat → α} {a k j : Nat} {v : α} : up I a k v a j = if j = k then v else I a j := by
  unfold up ex_set va_up
  rw [if_pos rfl]
theorem up_at {α : Type} {I : Nat → Nat → α} {a k : Nat} {v : α} : up I a k v a k = v := by
  rw [up_eq, if_pos rfl]
theorem up_nk {α : Type} {I : Nat → Nat → α} {a k j : Nat} {v : α} (h : j ≠ k) : up I a k v a j = I a j := by
  rw [up_eq, if_neg h]
theorem filf_ne {I : Nat → Nat → Int32} {a b n : Nat} {v : Int32} (h : b ≠ a) : filf I a n v b = I b := by
  unfold filf ex_set
  rw [if_neg h]
theorem filf_at {I : Nat → Nat → Int32} {a n j : Nat} {v : Int32} (h : j < n) : filf I a n v a j = v := by
  unfold filf ex_set
  rw [if_pos rfl, if_pos h]
theorem cpyf_ne {I : Nat → Nat → Int32} {a b c n : Nat} (h : c ≠ b) : cpyf I a b n c = I c := by
  unfold cpyf ex_set
  rw [if_neg h]
theorem cpyf_at {I : Nat → Nat → Int32} {a b n j : Nat} (h : j < n) : cpyf I a b n b j = I a j := by
  unfold cpyf ex_set va_cpy
  rw [if_pos rfl, if_pos (by omega)]
  simp
/-- all things but some are as before -/
def Fr (S : List Nat) (I I' : Nat → Nat → Int32) : Prop := ∀ a, a ∉ S → I' a = I a
theorem Fr.refl (S : List Nat) (I : Nat → Nat → Int32) : Fr S I I := fun _ _ => rfl
theorem Fr.trans {S : List Nat} {I I' I'' : Nat → Nat → Int32} (h : Fr S I I') (h' : Fr S I' I'') : Fr S I I'' := fun a ha => (h' a ha).trans (h a ha)
theorem Fr.up {S : List Nat} {I I' : Nat → Nat → Int32} {a k : Nat} {v : Int32} (h : Fr S I I') (ha : a ∈ S) : Fr S I (up I' a k v) := fun b hb => by
  have hne : b ≠ a := fun e => hb (by rw [e]; exact ha)
  rw [up_ne hne]
  exact h b hb
theorem Fr.mono {S T : List Nat} {I I' : Nat → Nat → Int32} (h : Fr S I I') (hs : ∀ a, a ∈ S → a ∈ T) : Fr T I I' := fun a ha => h a (fun e => ha (hs a e))
theorem FU_big {n : Nat} (h : n < 1000000000) : n < FU := by
  have : (1000000000 : Nat) < FU := by decide +kernel
  omega
theorem fx_s {α : Type} (z : α) (F : α → α) (n : Nat) : fx z F (n + 1) = F (fx z F n) := rfl
