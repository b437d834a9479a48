/-! The model counts rows; wished, fewest -/
section MW
variable {C H N M w : Nat} {K S : Nat → Nat} {Y : Nat → Nat → Nat} {I : Nat → Nat → Int32}
theorem f188_s {a n : Nat} (ha : a ≤ 6) (hn : n ≤ 6) : f_188 (nI a) (nI n) = some (nI (a ^ n)) := by
  have main : ∀ (j i m : Nat), i + j = n → j < m → fx (fun _ _ _ _ => none) bd_188_1 m (nI a) (nI n) (nI (a ^ i)) (nI i) = some (nI (a ^ n)) := by
    intro j
    induction j with
    | zero =>
      intro i m e hm
      cases m with
      | zero => omega
      | succ m =>
        obtain rfl : i = n := by omega
        rw [fx_s, bd_188_1]
        simp (disch := omega) only [ltN, Nat.lt_irrefl, if_false]
    | succ j ih =>
      intro i m e hm
      cases m with
      | zero => omega
      | succ m =>
        have hi : i < n := by omega
        rw [← ih (i + 1) m (by omega) (by omega), Nat.pow_succ, fx_s, bd_188_1]
        simp (disch := omega) only [lits, ltN, hi, if_true, mulN, addN]
  exact main n 0 FU (by omega) (FU_big (by omega))
/-- a row's layings -/
theorem dig_in {n row : Nat} (hn : n ≤ 5) (hrow : row < 10000) (x1 x2 x3 x4 x5 : Int32) (c1 : Int32 → Int32 → Int32 → Int32 → Int32 → (Nat → Nat → Int32) → Option (Int32 × (Nat → Nat → Int32))) (hH : 2 ≤ H) (hH6 : H ≤ 6) : ∀ (j m : Nat) (I : Nat → Nat → Int32), j ≤ n → j < m → I 97 2 = nI H → (∀ k, j ≤ k → k < n → I 118 k = nI (row / H ^ (n - 1 - k) % H)) → ∃ I', fx (fun _ _ _ _ _ _ _ _ => none) (bd_189_2 c1) m x1 x2 x3 x4 x5 (nI (row / H ^ (n - j))) (nI j - nI 1) I = ((f_182 I').bind fun q2 => lb_189_4 c1 x1 x2 x3 x4 x5 (0 : Int32) q2) ∧ (∀ k, k < n → I' 118 k = nI (row / H ^ (n - 1 - k) % H)) ∧ Fr [118] I I' := by
  intro j
  induction j with
  | zero =>
    intro m I _ hm h2 h8
    cases m with
    | zero => omega
    | succ m =>
      refine ⟨I, ?_, fun k hk => h8 k (Nat.zero_le k) hk, Fr.refl _ _⟩
      rw [fx_s, bd_189_2, if_pos (by decide)]
  | succ j ih =>
    intro m I hj hm h2 h8
    cases m with
    | zero => omega
    | succ m =>
      have rl : row / H ^ (n - (j + 1)) ≤ row := Nat.div_le_self _ _
      have e1 : n - 1 - j = n - (j + 1) := by omega
      have ed : row / H ^ (n - (j + 1)) / H = row / H ^ (n - j) := by
        rw [Nat.div_div_eq_div_mul, ← Nat.pow_succ, show (n - (j + 1)).succ = n - j by omega]
      have xj : nI (j + 1) - nI 1 = nI j := subN (by omega)
      have xj2 : nI j + (-1) = nI j - nI 1 := by
        apply Int32.toInt_inj.mp
        rw [Int32.sub_eq_add_neg]
        rfl
      have j5 : j < 5 := by omega
      have z : ¬ nI H = 0 := by
        show ¬ nI H = nI 0
        rw [eqN (by omega) (by decide)]
        omega
      have fr1 : Fr [118] I (up I 118 j (nI (row / H ^ (n - (j + 1)) % H))) := (Fr.refl _ _).up (by decide)
      obtain ⟨I', a1, a2, a3⟩ := ih m (up I 118 j (nI (row / H ^ (n - (j + 1)) % H))) (by omega) (by omega) (by rw [up_ne (by decide)]; exact h2) (fun k k1 k2 => by
        rw [up_eq]
        split
        · next y => rw [y, e1]
        · exact h8 k (by omega) k2)
      refine ⟨I', ?_, a2, fr1.trans a3⟩
      have u2 : (up I 118 j (nI (row / H ^ (n - (j + 1)) % H))) 97 2 = nI H := by rw [up_ne (by decide)]; exact h2
      rw [← a1, xj, fx_s, bd_189_2, if_neg (show ¬ nI j < 0 from negN (by omega)), h2, if_neg z, if_pos ((inN (by omega)).mpr j5), clN (by omega), remN (by omega) (by omega) (by omega)]
      dsimp only
      rw [u2, if_neg z, divN (by omega) (by omega) (by omega), ed, ← xj2]
/-- places by a row -/
theorem fol_in {n row p : Nat} (hn : n ≤ 5) (hp' : p < C) (many x3 x5 : Int32) (c1 : Int32 → Int32 → Int32 → Int32 → Int32 → (Nat → Nat → Int32) → Option (Int32 × (Nat → Nat → Int32))) : ∀ (j k m : Nat) (I : Nat → Nat → Int32), k + j = n → j < m → SetP C H N M w K S Y I → (∀ i, i < n → I 118 i = nI (row / H ^ (n - 1 - i) % H)) → (∀ q, q < C → I 116 q = nI (El C H (max N 1) K S k (row / H ^ (n - k)) q)) → ∃ I', fx (fun _ _ _ _ _ _ _ => none) (bd_189_4 c1) m (nI p) (nI n) x3 many x5 (nI k) I = @ite _ (Gd C H (max N 1) K S n (2 ^ p) row) (GdD C H (max N 1) K S n (2 ^ p) row) (if many = 0 then c1 (nI p) (nI n) x3 (many + 1) (x5 + 1) (up I' 97 49 x5) else c1 (nI p) (nI n) x3 (many + 1) (x5 + 1) I') (c1 (nI p) (nI n) x3 many (x5 + 1) I') ∧ Keep I I' ∧ I' 97 = I 97 := by
  intro j
  induction j with
  | zero =>
    intro k m I e hm h h8 he
    cases m with
    | zero => omega
    | succ m =>
      obtain ⟨c1', c2, c3, c4⟩ := h.ch
      obtain rfl : k = n := by omega
      refine ⟨I, ?_, Keep.refl I, rfl⟩
      rw [Nat.sub_self, Nat.pow_zero, Nat.div_one] at he
      have el : ∀ q, q < C → El C H (max N 1) K S k row q < C := fun q hq => El_lt h.ch hq k row
      have g := f184_s h.m1 c4 (by omega) (fun q hq => ⟨el q hq, he q hq⟩)
      have g0 := he 0 (by omega)
      have z6 : 0 < 60 := by decide
      have bitE : ∀ x, x < C → ((2 ^ p).testBit x = true ↔ x = p) := fun x _ => by
        rw [Nat.testBit_two_pow, decide_eq_true_iff]
        exact eq_comm
      rw [fx_s, bd_189_4, if_neg (Int32.lt_irrefl (a := nI k)), g, Option.bind_some]
      unfold lb_189_7 lb_189_8
      by_cases q : Gd C H (max N 1) K S k (2 ^ p) row
      · have qa : ∀ x, x < C → El C H (max N 1) K S k row x = p := fun x hx => (bitE _ (el x hx)).mp (q x hx)
        rw [if_pos q, if_pos (fun x hx => by rw [qa x hx, qa 0 (by omega)]), if_neg (by decide), if_pos ⟨by decide, by decide⟩]
        have c0 : ((0 : Int32)).toNatClampNeg = 0 := rfl
        rw [c0, g0, qa 0 (by omega), if_pos rfl]
      · rw [if_neg q]
        by_cases qa : ∀ x, x < C → El C H (max N 1) K S k row x = El C H (max N 1) K S k row 0
        · rw [if_pos qa, if_neg (by decide), if_pos ⟨by decide, by decide⟩]
          have c0 : ((0 : Int32)).toNatClampNeg = 0 := rfl
          have ne : ¬ El C H (max N 1) K S k row 0 = p := fun z => q (fun x hx => by
            rw [qa x hx, z, Nat.testBit_two_pow_self])
          have l0 := el 0 (by omega)
          rw [c0, g0, if_neg (fun z => ne ((eqN (by omega) (by omega)).mp z))]
        · rw [if_neg qa, if_pos (by rfl)]
  | succ j ih =>
    intro k m I e hm h h8 he
    cases m with
    | zero => omega
    | succ m =>
      obtain ⟨c1', c2, c3, c4⟩ := h.ch
      have hk : k < n := by omega
      have ml := Nat.mod_lt (row / H ^ (n - 1 - k)) (show 0 < H by omega)
      obtain ⟨I1, r1, r2, r3, r4, r5⟩ := h.f181 (i := k) (x2 := nI (row / H ^ (n - 1 - k) % H)) (ly := fun _ => row / H ^ (n - 1 - k) % H) (by omega) (Or.inr ⟨_, ml, rfl, rfl⟩) (fun q hq => ⟨El_lt h.ch hq k _, he q hq⟩)
      have ed : row / H ^ (n - (k + 1)) / H = row / H ^ (n - k) := by
        rw [Nat.div_div_eq_div_mul, ← Nat.pow_succ, show (n - (k + 1)).succ = n - k by omega]
      obtain ⟨I', a1, a2, a3⟩ := ih (k + 1) m I1 (by omega) (by omega) (h.keep r3) (fun i hi => by rw [r5]; exact h8 i hi) (fun q hq => by
        rw [r2 q hq, El, ed, show n - 1 - k = n - (k + 1) by omega]
        rfl)
      refine ⟨I', ?_, r3.trans a2, a3.trans r4⟩
      rw [← a1, fx_s, bd_189_4, if_pos ((ltN (by omega) (by omega)).mpr hk), if_pos ((inN (by omega)).mpr (by omega)), clN (by omega), h8 k hk, r1, Option.bind_some, nI_1]
/-- rows counted up -/
theorem f189_in {n p : Nat} (hn1 : 1 ≤ n) (hn : n ≤ 5) (hp' : p < C) : ∀ (j row m : Nat) (I : Nat → Nat → Int32), row + j = H ^ n → j < m → SetP C H N M w K S Y I → (NR C H (max N 1) K S n (2 ^ p) row = 0 ∨ ∃ fo, fo < row ∧ I 97 49 = nI fo ∧ Gd C H (max N 1) K S n (2 ^ p) fo ∧ ∀ r, r < fo → ¬ Gd C H (max N 1) K S n (2 ^ p) r) → ∃ I', fx (fun _ _ _ _ _ _ => none) bd_189_1 m (nI p) (nI n) (nI (H ^ n)) (nI (NR C H (max N 1) K S n (2 ^ p) row)) (nI row) I = some (nI (NR C H (max N 1) K S n (2 ^ p) (H ^ n)), I') ∧ Keep I I' ∧ I' 97 0 = I 97 0 ∧ (NR C H (max N 1) K S n (2 ^ p) (H ^ n) = 0 ∨ ∃ fo, fo < H ^ n ∧ I' 97 49 = nI fo ∧ Gd C H (max N 1) K S n (2 ^ p) fo ∧ ∀ r, r < fo → ¬ Gd C H (max N 1) K S n (2 ^ p) r) := by
  intro j
  induction j with
  | zero =>
    intro row m I e hm h hf
    cases m with
    | zero => omega
    | succ m =>
      have pm := pow_le6 (m := n) h.ch.2.1 hn
      obtain rfl : row = H ^ n := by omega
      refine ⟨I, ?_, Keep.refl I, rfl, hf⟩
      rw [fx_s, bd_189_1, if_neg (Int32.lt_irrefl (a := nI (H ^ n)))]
  | succ j ih =>
    intro row m I e hm h hf
    cases m with
    | zero => omega
    | succ m =>
      obtain ⟨c1, c2, c3, c4⟩ := h.ch
      have pm := pow_le6 (m := n) c2 hn
      have hr : row < H ^ n := by omega
      have nl := NR_le (C := C) (H := H) (R := max N 1) (K := K) (S := S) (m := n) (s := 2 ^ p) row
      obtain ⟨I1, a1, a2, a3⟩ := dig_in (row := row) hn (by omega) (nI p) (nI n) (nI (H ^ n)) (nI (NR C H (max N 1) K S n (2 ^ p) row)) (nI row) (fx (fun _ _ _ _ _ _ => none) bd_189_1 m) c1 c2 n FU I (Nat.le_refl n) (FU_big (by omega)) h.m2 (fun k k1 k2 => absurd k2 (by omega))
      rw [Nat.sub_self, Nat.pow_zero, Nat.div_one] at a1
      have k1 : Keep I I1 := Keep.fr a3 (by decide)
      obtain ⟨I2, b1, b2, b3⟩ := f182_s I1
      have k2 := k1.trans (Keep.fr b3 (by decide))
      obtain ⟨I3, d1, d2, d3⟩ := fol_in (row := row) hn hp' (nI (NR C H (max N 1) K S n (2 ^ p) row)) (nI (H ^ n)) (nI row) (fx (fun _ _ _ _ _ _ => none) bd_189_1 m) n 0 FU I2 (by omega) (FU_big (by omega)) (h.keep k2) (fun i hi => by rw [b3 118 (by decide)]; exact a2 i hi) (fun q hq => b2 q (by omega))
      have k3 := k2.trans d2
      have i97 : I3 97 = I 97 := by rw [d3, b3 97 (by decide), a3 97 (by decide)]
      rw [fx_s, bd_189_1, if_pos ((ltN (by omega) (by omega)).mpr hr)]
      have q1 : lb_189_2 (fx (fun _ _ _ _ _ _ => none) bd_189_1 m) (nI p) (nI n) (nI (H ^ n)) (nI (NR C H (max N 1) K S n (2 ^ p) row)) (nI row) (nI row) (nI n - (1 : Int32)) I = _ := a1
      have q2 : lb_189_4 (fx (fun _ _ _ _ _ _ => none) bd_189_1 m) (nI p) (nI n) (nI (H ^ n)) (nI (NR C H (max N 1) K S n (2 ^ p) row)) (nI row) (0 : Int32) I2 = _ := d1
      rw [q1, b1, Option.bind_some, q2]
      have e1 : NR C H (max N 1) K S n (2 ^ p) (row + 1) = NR C H (max N 1) K S n (2 ^ p) row + @ite _ (Gd C H (max N 1) K S n (2 ^ p) row) (GdD C H (max N 1) K S n (2 ^ p) row) 1 0 := rfl
      by_cases q : Gd C H (max N 1) K S n (2 ^ p) row
      · rw [if_pos q] at e1 ⊢
        by_cases q2 : NR C H (max N 1) K S n (2 ^ p) row = 0
        · have ku : Keep I (up I3 97 49 (nI row)) := by
            refine k3.trans ⟨(Fr.refl _ _).up (by decide), by rw [up_ne (by decide)], by rw [up_ne (by decide)], by rw [up_ne (by decide)], by rw [up_ne (by decide)], fun k _ h2 => by rw [up_nk h2]⟩
          rw [if_pos (by rw [q2]; rfl), nI_1, nI_1, ← e1]
          obtain ⟨I', u1, u2, u3, u4⟩ := ih (row + 1) m _ (by omega) (by omega) (h.keep ku) (Or.inr ⟨row, by omega, up_at, q, fun r hr' hg => by
            have z : ∀ R', r < R' → 0 < NR C H (max N 1) K S n (2 ^ p) R' := by
              intro R'
              induction R' with
              | zero => omega
              | succ R' ihR =>
                intro hlt
                rw [NR]
                by_cases y : r = R'
                · rw [← y, if_pos hg]
                  omega
                · have := ihR (by omega)
                  omega
            have := z row hr'
            omega⟩)
          exact ⟨I', u1, ku.trans u2, by rw [u3, up_nk (by decide), i97], u4⟩
        · rw [if_neg (show ¬ nI (NR C H (max N 1) K S n (2 ^ p) row) = 0 from fun z => q2 ((eqN (by omega) (by decide)).mp z)), nI_1, nI_1, ← e1]
          obtain ⟨I', u1, u2, u3, u4⟩ := ih (row + 1) m I3 (by omega) (by omega) (h.keep k3) (by
            rcases hf with hf | ⟨fo, f1, f2, f3, f4⟩
            · exact absurd hf q2
            · exact Or.inr ⟨fo, by omega, by rw [i97]; exact f2, f3, f4⟩)
          exact ⟨I', u1, k3.trans u2, by rw [u3, i97], u4⟩
      · rw [if_neg q] at e1 ⊢
        have e1 := e1.trans (Nat.add_zero _)
        rw [nI_1, ← e1]
        obtain ⟨I', u1, u2, u3, u4⟩ := ih (row + 1) m I3 (by omega) (by omega) (h.keep k3) (by
          rcases hf with hf | ⟨fo, f1, f2, f3, f4⟩
          · exact Or.inl (by rw [e1]; exact hf)
          · exact Or.inr ⟨fo, by omega, by rw [i97]; exact f2, f3, f4⟩)
        exact ⟨I', u1, k3.trans u2, by rw [u3, i97], u4⟩
theorem f189_s (h : SetP C H N M w K S Y I) {p n : Nat} (hp' : p < C) (hn1 : 1 ≤ n) (hn : n ≤ 5) : ∃ I', f_189 (nI p) (nI n) I = some (nI (NR C H (max N 1) K S n (2 ^ p) (H ^ n)), I') ∧ Keep I I' ∧ I' 97 0 = I 97 0 ∧ (NR C H (max N 1) K S n (2 ^ p) (H ^ n) = 0 ∨ ∃ fo, fo < H ^ n ∧ I' 97 49 = nI fo ∧ Gd C H (max N 1) K S n (2 ^ p) fo ∧ ∀ r, r < fo → ¬ Gd C H (max N 1) K S n (2 ^ p) r) := by
  have c2 := h.ch.2.1
  have pm := pow_le6 (m := n) c2 hn
  obtain ⟨I', a1, a2, a3, a4⟩ := f189_in hn1 hn hp' (H ^ n) 0 FU I (by omega) (FU_big (by omega)) h (Or.inl rfl)
  refine ⟨I', ?_, a2, a3, a4⟩
  unfold f_189
  rw [h.m2, f188_s c2 (by omega), Option.bind_some]
  exact a1
/-- fewest, as both count it -/
def fwr (C H R : Nat) (K S : Nat → Nat) (p : Nat) : Nat → Nat → Int32
  | 0, _ => -1
  | j + 1, n => if 0 < NR C H R K S n (2 ^ p) (H ^ n) then nI n else fwr C H R K S p j (n + 1)
theorem few_c {p : Nat} (hp' : p < C) : ∀ (j n m : Nat) (I : Nat → Nat → Int32), n + j = 6 → 1 ≤ n → j < m → SetP C H N M w K S Y I → ∃ I', fx (fun _ _ _ => none) bd_99_2 m (nI p) (nI n) I = some (.inl (fwr C H (max N 1) K S p j n), I') ∧ Keep I I' := by
  intro j
  induction j with
  | zero =>
    intro n m I e hn hm hI
    cases m with
    | zero => omega
    | succ m =>
      obtain rfl : n = 6 := by omega
      refine ⟨I, ?_, Keep.refl I⟩
      rw [fx_s, bd_99_2, if_pos (show (5 : Int32) < nI 6 by decide), fwr]
  | succ j ih =>
    intro n m I e hn hm hI
    cases m with
    | zero => omega
    | succ m =>
      have n5 : ¬ (5 : Int32) < nI n := by
        show ¬ nI 5 < nI n
        rw [ltN (by decide) (by omega)]
        omega
      have pm := pow_le6 (m := n) hI.ch.2.1 (by omega)
      have nl := NR_le (C := C) (H := H) (R := max N 1) (K := K) (S := S) (m := n) (s := 2 ^ p) (H ^ n)
      obtain ⟨I', f1, a1, a2, a3, a4, a5⟩ := f82_s hI hp' hn (by omega)
      rw [fwr]
      by_cases q : 0 < NR C H (max N 1) K S n (2 ^ p) (H ^ n)
      · have q' : (0 : Int32) < nI (NR C H (max N 1) K S n (2 ^ p) (H ^ n)) := (ltN (a := 0) (by decide) (by omega)).mpr q
        refine ⟨I', ?_, a2⟩
        rw [fx_s, bd_99_2, if_neg n5, a1, Option.bind_some, if_pos q', if_pos q]
      · have q' : ¬ (0 : Int32) < nI (NR C H (max N 1) K S n (2 ^ p) (H ^ n)) := fun z => q ((ltN (a := 0) (by decide) (by omega)).mp z)
        obtain ⟨I'', u1, u2⟩ := ih (n + 1) m I' (by omega) (by omega) (by omega) (hI.keep a2)
        refine ⟨I'', ?_, a2.trans u2⟩
        rw [fx_s, bd_99_2, if_neg n5, a1, Option.bind_some, if_neg q', nI_1, if_neg q]
        exact u1
theorem few_m {p : Nat} (hp' : p < C) : ∀ (j n m : Nat) (I : Nat → Nat → Int32), n + j = 6 → 1 ≤ n → j < m → SetP C H N M w K S Y I → ∃ I', fx (fun _ _ _ => none) bd_192_2 m (nI p) (nI n) I = some (fwr C H (max N 1) K S p j n, I') ∧ Keep I I' ∧ I' 97 0 = I 97 0 := by
  intro j
  induction j with
  | zero =>
    intro n m I e hn hm hI
    cases m with
    | zero => omega
    | succ m =>
      obtain rfl : n = 6 := by omega
      refine ⟨I, ?_, Keep.refl I, rfl⟩
      rw [fx_s, bd_192_2, if_pos (show (5 : Int32) < nI 6 by decide), fwr]
  | succ j ih =>
    intro n m I e hn hm hI
    cases m with
    | zero => omega
    | succ m =>
      have n5 : ¬ (5 : Int32) < nI n := by
        show ¬ nI 5 < nI n
        rw [ltN (by decide) (by omega)]
        omega
      have pm := pow_le6 (m := n) hI.ch.2.1 (by omega)
      have nl := NR_le (C := C) (H := H) (R := max N 1) (K := K) (S := S) (m := n) (s := 2 ^ p) (H ^ n)
      obtain ⟨I', a1, a2, a3, a4⟩ := f189_s hI hp' hn (by omega)
      rw [fwr]
      by_cases q : 0 < NR C H (max N 1) K S n (2 ^ p) (H ^ n)
      · have q' : (0 : Int32) < nI (NR C H (max N 1) K S n (2 ^ p) (H ^ n)) := (ltN (a := 0) (by decide) (by omega)).mpr q
        refine ⟨I', ?_, a2, a3⟩
        rw [fx_s, bd_192_2, if_neg n5, a1, Option.bind_some, if_pos q', if_pos q]
      · have q' : ¬ (0 : Int32) < nI (NR C H (max N 1) K S n (2 ^ p) (H ^ n)) := fun z => q ((ltN (a := 0) (by decide) (by omega)).mp z)
        obtain ⟨I'', u1, u2, u3⟩ := ih (n + 1) m I' (by omega) (by omega) (by omega) (hI.keep a2)
        refine ⟨I'', ?_, a2.trans u2, u3.trans a3⟩
        rw [fx_s, bd_192_2, if_neg n5, a1, Option.bind_some, if_neg q', nI_1, if_neg q]
        exact u1
theorem fewest_s (h : SetP C H N M w K S Y I) (x1 : Int32) : ∃ q I1 b I2, f_99 x1 I = some (q, I1) ∧ Keep I I1 ∧ f_192 x1 I1 = some (b, I2) ∧ Keep I1 I2 ∧ OKq cdN q b (I2 97 0) := by
  obtain ⟨c1, c2, c3, c4⟩ := h.ch
  rcases ix x1 C (by omega) with ⟨p, hp', rfl⟩ | o1
  · obtain ⟨I1, a1, a2⟩ := few_c hp' 5 1 FU I rfl (by decide) (FU_big (by decide)) h
    have h1 := (h.keep a2).up0 (nI 0)
    have z0 : (up I1 97 0 (nI 0)) 97 0 = nI 0 := up_at
    obtain ⟨I2, b1, b2, b3⟩ := few_m hp' 5 1 FU (up I1 97 0 (nI 0)) rfl (by decide) (FU_big (by decide)) h1
    refine ⟨.inl (fwr C H (max N 1) K S p 5 1), I1, fwr C H (max N 1) K S p 5 1, I2, ?_, a2, ?_, ((Keep.refl I1).up0 _).trans b2, by rw [b3, z0]; exact ⟨rfl, rfl⟩⟩
    · have e : lb_99_2 (nI p) (1 : Int32) I = some (.inl (fwr C H (max N 1) K S p 5 1), I1) := a1
      rw [f_99, f56_y h.i4 (show C < 2147483648 by omega) hp', Option.bind_some, if_neg (show ¬ nI 1 = 0 by decide), e]
    · have e : lb_192_2 (nI p) (1 : Int32) (up I1 97 0 (0 : Int32)) = some (fwr C H (max N 1) K S p 5 1, I2) := b1
      have e2 : f_176 (nI p) (up I1 97 0 (0 : Int32)) = some (nI 1, up I1 97 0 (0 : Int32)) := f176_y (show (up I1 97 0 (0 : Int32)) 97 0 = nI 0 from z0) (show (up I1 97 0 (0 : Int32)) 97 1 = nI C from h1.m1) (by omega) hp'
      rw [f_192, e2, Option.bind_some, if_neg (show ¬ nI 1 = 0 by decide), e]
  · have h0 := h.up0 (nI 0)
    have z0 : (up I 97 0 (nI 0)) 97 0 = nI 0 := up_at
    have k0 := (Keep.refl I).up0 (nI 0)
    refine ⟨.inr 1, I, nI 0, up (up I 97 0 (nI 0)) 97 0 (nI 1), ?_, Keep.refl I, ?_, k0.up0 _, by rw [up_at]; exact ⟨rfl, by decide, by decide⟩⟩
    · unfold f_99
      simp only [lits, f56_n h.i4 (show C < 2147483648 by omega) (by omega) o1, Option.bind_some, if_true]
    · unfold f_192
      simp only [lits, f176_n z0 h0.m1 o1, Option.bind_some, if_true]
end MW
