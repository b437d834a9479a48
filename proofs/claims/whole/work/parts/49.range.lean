/-! Ranges, throws, the model's own deals -/
theorem ixw (x : Int32) (a b : Nat) (hb : b < 2147483648) (ha : a < 2147483648) : (∃ j, a ≤ j ∧ j ≤ b ∧ x = nI j) ∨ (x < nI a ∨ nI b < x) := by
  by_cases h1 : x < nI a
  · exact Or.inr (Or.inl h1)
  · by_cases h2 : nI b < x
    · exact Or.inr (Or.inr h2)
    · rw [Int32.lt_iff_toInt_lt, nI_toInt (pw31 ▸ ha)] at h1
      rw [Int32.lt_iff_toInt_lt, nI_toInt (pw31 ▸ hb)] at h2
      refine Or.inl ⟨x.toInt.toNat, by omega, by omega, Int32.toInt_inj.mp ?_⟩
      rw [nI_toInt (by omega)]
      omega
/-- below n, or not -/
theorem ix (x : Int32) (n : Nat) (hn : n < 2147483648) : (∃ j, j < n ∧ x = nI j) ∨ (x < nI 0 ∨ ¬ x < nI n) := by
  by_cases h : x < nI n
  · rcases ixw x 0 n hn (by omega) with ⟨j, _, h2, rfl⟩ | h2 | h2
    · rw [ltN (by omega) hn] at h
      exact Or.inl ⟨j, h, rfl⟩
    · exact Or.inr (Or.inl h2)
    · exact absurd h (Int32.not_lt.mpr (Int32.le_of_lt h2))
  · exact Or.inr (Or.inr h)
theorem out_pred {x : Int32} {n : Nat} (h0 : 0 < n) (hn : n < 2147483648) (h : x < nI 0 ∨ ¬ x < nI n) : x < nI 0 ∨ nI (n - 1) < x := by
  rcases h with h | h
  · exact Or.inl h
  · right
    rw [Int32.lt_iff_toInt_lt, nI_toInt (pw31 ▸ hn)] at h
    rw [Int32.lt_iff_toInt_lt, nI_toInt (by omega)]
    omega
theorem f122_y {a j b : Nat} (h1 : a ≤ j) (h2 : j ≤ b) (hb : b < 2147483648) : f_122 (nI j) (nI a) (nI b) = some (nI 1) := by
  unfold f_122
  rw [if_neg (by rw [ltN (by omega) (by omega)]; omega), if_neg (by rw [ltN (by omega) (by omega)]; omega)]
  rfl
theorem f122_n {x a b : Int32} (h : x < a ∨ b < x) : f_122 x a b = some (nI 0) := by
  unfold f_122
  by_cases h1 : x < a
  · rw [if_pos h1]
    rfl
  · rw [if_neg h1, if_pos (h.resolve_left h1)]
    rfl
theorem f133_y {a j b : Nat} (h1 : a ≤ j) (h2 : j ≤ b) (hb : b < 2147483648) : f_133 (nI j) (nI a) (nI b) = some (nI 1) := by
  unfold f_133
  rw [if_neg (by rw [ltN (by omega) (by omega)]; omega), if_neg (by rw [ltN (by omega) (by omega)]; omega)]
  rfl
theorem f133_n {x a b : Int32} (h : x < a ∨ b < x) : f_133 x a b = some (nI 0) := by
  unfold f_133
  by_cases h1 : x < a
  · rw [if_pos h1]
    rfl
  · rw [if_neg h1, if_pos (h.resolve_left h1)]
    rfl
theorem f56_y {C j : Nat} {I : Nat → Nat → Int32} (h4 : I 79 4 = nI C) (hC : C < 2147483648) (h : j < C) : f_56 (nI j) I = some (nI 1) := by
  have e : f_122 (nI j) (nI 0) (nI (C - 1)) = some (nI 1) := f122_y (by omega) (by omega) (by omega)
  unfold f_56
  simp (disch := omega) only [lits, h4, subN, e, Option.bind_some, or_true, if_true]
theorem f56_n {C : Nat} {x : Int32} {I : Nat → Nat → Int32} (h4 : I 79 4 = nI C) (hC : C < 2147483648) (h0 : 0 < C) (h : x < nI 0 ∨ ¬ x < nI C) : f_56 x I = some (nI 0) := by
  have e : f_122 x (nI 0) (nI (C - 1)) = some (nI 0) := f122_n (out_pred h0 hC h)
  unfold f_56
  simp (disch := omega) only [lits, h4, subN, e, Option.bind_some, true_or, if_true]
theorem f57_y {C j : Nat} {I : Nat → Nat → Int32} (h4 : I 79 5 = nI C) (hC : C < 2147483648) (h : j < C) : f_57 (nI j) I = some (nI 1) := by
  have e : f_122 (nI j) (nI 0) (nI (C - 1)) = some (nI 1) := f122_y (by omega) (by omega) (by omega)
  unfold f_57
  simp (disch := omega) only [lits, h4, subN, e, Option.bind_some, or_true, if_true]
theorem f57_n {C : Nat} {x : Int32} {I : Nat → Nat → Int32} (h4 : I 79 5 = nI C) (hC : C < 2147483648) (h0 : 0 < C) (h : x < nI 0 ∨ ¬ x < nI C) : f_57 x I = some (nI 0) := by
  have e : f_122 x (nI 0) (nI (C - 1)) = some (nI 0) := f122_n (out_pred h0 hC h)
  unfold f_57
  simp (disch := omega) only [lits, h4, subN, e, Option.bind_some, true_or, if_true]
/-- the model's word of a throw -/
theorem f132_y {w : Int32} {I : Nat → Nat → Int32} (h : I 97 0 = nI 0) : f_132 (nI 1) w I = some (nI 1, I) := by
  unfold f_132 lb_132_1 lb_132_3
  simp (disch := omega) only [lits, h, eqN, Nat.reduceEqDiff, if_true, if_false, or_true]
theorem f132_n {w : Nat} {I : Nat → Nat → Int32} (h : I 97 0 = nI 0) (hw : 0 < w) (hw2 : w < 3) : f_132 (nI 0) (nI w) I = some (nI 0, up I 97 0 (nI w)) := by
  have w0 : ¬ w = 0 := by omega
  unfold f_132 lb_132_1 lb_132_3
  simp (disch := omega) only [lits, h, eqN, up_at, w0, if_true, if_false, true_or]
theorem f176_y {C j : Nat} {I : Nat → Nat → Int32} (h : I 97 0 = nI 0) (h1 : I 97 1 = nI C) (hC : C < 2147483648) (hj : j < C) : f_176 (nI j) I = some (nI 1, I) := by
  unfold f_176 lb_176_1 lb_176_2
  have j0 : ¬ j < 0 := by omega
  simp (disch := omega) only [lits, h1, ltN, hj, j0, f132_y h, if_true, if_false, Option.bind_some, or_true]
theorem f176_n {C : Nat} {x : Int32} {I : Nat → Nat → Int32} (h : I 97 0 = nI 0) (h1 : I 97 1 = nI C) (hx : x < nI 0 ∨ ¬ x < nI C) : f_176 x I = some (nI 0, up I 97 0 (nI 1)) := by
  have e := f132_n (w := 1) h (by decide) (by decide)
  unfold f_176 lb_176_1 lb_176_2
  simp only [lits, h1, e, Option.bind_some, true_or, if_true]
  by_cases q : x < nI 0
  · rw [if_pos q]
  · rw [if_neg q, if_neg (hx.resolve_left q)]
theorem f177_y {C j : Nat} {w : Int32} {I : Nat → Nat → Int32} (h : I 97 0 = nI 0) (h1 : I 97 2 = nI C) (hC : C < 2147483648) (hj : j < C) : f_177 (nI j) w I = some (nI 1, I) := by
  unfold f_177 lb_177_1 lb_177_2
  have j0 : ¬ j < 0 := by omega
  simp (disch := omega) only [lits, h1, ltN, hj, j0, f132_y h, if_true, if_false, Option.bind_some, or_true]
theorem f177_n {C w : Nat} {x : Int32} {I : Nat → Nat → Int32} (h : I 97 0 = nI 0) (h1 : I 97 2 = nI C) (hw : 0 < w) (hw2 : w < 3) (hx : x < nI 0 ∨ ¬ x < nI C) : f_177 x (nI w) I = some (nI 0, up I 97 0 (nI w)) := by
  have e := f132_n h hw hw2
  unfold f_177 lb_177_1 lb_177_2
  simp only [lits, h1, e, Option.bind_some, true_or, if_true]
  by_cases q : x < nI 0
  · rw [if_pos q]
  · rw [if_neg q, if_neg (hx.resolve_left q)]
theorem f178_y {j : Nat} {w : Int32} {I : Nat → Nat → Int32} (h : I 97 0 = nI 0) (hj : j ≤ 60) : f_178 (nI j) w I = some (nI 1, I) := by
  unfold f_178
  simp only [lits, f133_y (Nat.zero_le j) hj (by omega), f132_y h, Option.bind_some, or_true, if_true]
theorem f178_n {w : Nat} {x : Int32} {I : Nat → Nat → Int32} (h : I 97 0 = nI 0) (hw : 0 < w) (hw2 : w < 3) (hx : x < nI 0 ∨ nI 60 < x) : f_178 x (nI w) I = some (nI 0, up I 97 0 (nI w)) := by
  unfold f_178
  simp only [lits, f133_n hx, f132_n h hw hw2, Option.bind_some, true_or, if_true]
section MR
variable {C H N M w : Nat} {K S : Nat → Nat} {Y : Nat → Nat → Nat} {I : Nat → Nat → Int32}
theorem SetP.f173 (h : SetP C H N M w K S Y I) {i : Nat} (hi : i < 2147483648) : f_173 (nI i) I = some (nI (K (i % max N 1))) := by
  obtain ⟨a1, a2, a3, a4, a5, a6, a7, a8, a9, b1, b2, b3⟩ := h
  unfold f_173 lb_173_2
  rw [b1.2.2.1]
  by_cases q : N = 0
  · subst q
    obtain ⟨e1, e2, e3⟩ := b2 rfl
    rw [if_pos nI_0, show i % max 0 1 = 0 from Nat.mod_one i, e1]
    rfl
  · have m1 : max N 1 = N := by omega
    have l8 : i % N < 8 := by have := Nat.mod_lt i (show 0 < N by omega); omega
    have e := (b3 _ (Nat.mod_lt i (show 0 < N by omega))).1
    simp (disch := omega) only [lits, ↓remN, eqN, inN, clN, q, l8, if_true, if_false, e, m1]
theorem SetP.f174 (h : SetP C H N M w K S Y I) {i : Nat} (hi : i < 2147483648) : f_174 (nI i) I = some (nI (S (i % max N 1))) := by
  obtain ⟨a1, a2, a3, a4, a5, a6, a7, a8, a9, b1, b2, b3⟩ := h
  unfold f_174 lb_174_2
  rw [b1.2.2.1]
  by_cases q : N = 0
  · subst q
    obtain ⟨e1, e2, e3⟩ := b2 rfl
    rw [if_pos nI_0, show i % max 0 1 = 0 from Nat.mod_one i, e2]
    rfl
  · have m1 : max N 1 = N := by omega
    have l8 : i % N < 8 := by have := Nat.mod_lt i (show 0 < N by omega); omega
    have e := (b3 _ (Nat.mod_lt i (show 0 < N by omega))).2.1
    simp (disch := omega) only [lits, ↓remN, eqN, inN, clN, q, l8, if_true, if_false, e, m1]
theorem SetP.f175 (h : SetP C H N M w K S Y I) {i : Nat} (hi : i < 2147483648) : f_175 (nI i) I = some (nI (i % max N 1)) := by
  obtain ⟨a1, a2, a3, a4, a5, a6, a7, a8, a9, b1, b2, b3⟩ := h
  unfold f_175 lb_175_2
  rw [b1.2.2.1]
  by_cases q : N = 0
  · subst q
    rw [if_pos nI_0, show i % max 0 1 = 0 from Nat.mod_one i]
    rfl
  · have m1 : max N 1 = N := by omega
    simp (disch := omega) only [lits, ↓remN, eqN, q, if_false, m1]
/-- the laying by a rule -/
theorem SetP.f172 (h : SetP C H N M w K S Y I) {d x : Nat} (hd : d < max N 1) (hx : x < H) (hz : I 112 x = nI (ct C H (K d) C x)) : ∃ I', f_172 (nI d) (nI x) I = some (nI (Y d x), I') ∧ Fr [115] I I' := by
  obtain ⟨a1, a2, a3, a4, a5, a6, a7, a8, a9, b1, b2, b3⟩ := h
  have c1 := a1.1
  have c2 := a1.2.1
  by_cases q : N = 0
  · subst q
    obtain rfl : d = 0 := by omega
    obtain ⟨e1, e2, e3⟩ := b2 rfl
    refine ⟨I, ?_, Fr.refl _ _⟩
    have h2 : H / 2 < H := Nat.div_lt_self (by omega) (by decide)
    have m2 : H / 2 % H = H / 2 := Nat.mod_eq_of_lt h2
    have z : ¬ H = 0 := by omega
    have dd : nI H / nI 2 = nI (H / 2) := divN (by omega) (by decide) (by decide)
    unfold f_172
    rw [b1.2.2.1, b1.2.1, e3 x hx, if_pos nI_0]
    simp only [lits, dd]
    simp (disch := omega) only [↓remN, eqN, z, if_false, m2]
  · have dN : d < N := by omega
    obtain ⟨e1, e2, P, a, p1, p2, p3, p4⟩ := b3 d dN
    obtain ⟨y, y1, y2, y3, y4⟩ := p4 x hx
    obtain ⟨I', r1, r2⟩ := rule_in a1 hx (show d < 8 by omega) P [] y a FU I (FU_big (by
      have : P.length ≤ (encL P).length := by
        clear p1 p2 p3 p4 y1
        induction P with
        | nil => exact Nat.le_refl _
        | cons c P ih =>
          rw [encL, List.length_append, List.length_cons]
          have : 1 ≤ (enc c).length := by
            unfold enc
            split
            · exact Nat.le_succ 1
            · split
              · exact Nat.le_succ 1
              · exact Nat.le_refl 1
          omega
      omega)) p2 p3 (by intro i hi; exact absurd hi (Nat.not_lt_zero _)) (by exact Nat.zero_le _) ⟨b1.1, b1.2.1, b1.2.2.2.2⟩ hz y1
    refine ⟨I', ?_, r2⟩
    rw [y4] at r1
    have d8 : d < 8 := by omega
    unfold f_172
    simp (disch := omega) only [lits, b1.2.2.1, eqN, q, if_false, inN, clN, d8, if_true, p1]
    exact r1
end MR
