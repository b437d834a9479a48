/-! At the table: the model's answers -/
/-- the model keeps what was -/
theorem f199_3 {C A : Nat} {P M0 : Nat → Nat} (x1 x2 x3 x4 : Int32) (hC : C ≤ 60) (hA : A < 20) : ∀ (j p n : Nat) (I : Nat → Nat → Int32), p + j = C → j < n → I 97 1 = nI C → I 97 52 = nI A → (∀ x, x < C → I 122 x = nI (P x) ∧ I 124 x = nI (M0 x)) → (∀ x, x < p → I 125 (60 * A + x) = nI (P x) ∧ I 126 (60 * A + x) = nI (M0 x)) → ∃ I', fx (fun _ _ _ _ _ _ => none) bd_199_3 n x1 x2 x3 x4 (nI p) I = ((f_167 x1 x2 (up I' 97 52 (nI (A + 1)))).bind fun q5 => (f_168 x4 x4 x3 q5).bind fun q6 => lb_199_5 x4 (nI 0) q6) ∧ (∀ x, x < C → I' 125 (60 * A + x) = nI (P x) ∧ I' 126 (60 * A + x) = nI (M0 x)) ∧ (∀ y, y < 60 * A → I' 125 y = I 125 y ∧ I' 126 y = I 126 y) ∧ Fr [125, 126] I I'
  | _, _, 0, _, _, h, _, _, _, _ => absurd h (Nat.not_lt_zero _)
  | 0, p, n + 1, I, e, _, h1, h2, h3, h4 => by
    obtain rfl : p = C := by omega
    refine ⟨I, ?_, h4, fun y _ => ⟨rfl, rfl⟩, Fr.refl _ _⟩
    rw [fx_s, bd_199_3]
    simp (disch := omega) only [h1, h2, lits, ltN, Nat.lt_irrefl, if_false, addN]
  | j + 1, p, n + 1, I, e, hn, h1, h2, h3, h4 => by
    have hp' : p < C := by omega
    have p6 : p < 60 := by omega
    have l12 : 60 * A + p < 1200 := by omega
    obtain ⟨a1, a2⟩ := h3 p hp'
    have fr2 : Fr [125, 126] I (up (up I 125 (60 * A + p) (nI (P p))) 126 (60 * A + p) (nI (M0 p))) := ((Fr.refl _ _).up (by decide)).up (by decide)
    obtain ⟨I', r1, r2, r3, r4⟩ := f199_3 (P := P) (M0 := M0) x1 x2 x3 x4 hC hA j (p + 1) n (up (up I 125 (60 * A + p) (nI (P p))) 126 (60 * A + p) (nI (M0 p))) (by omega) (by omega) (by rw [fr2 97 (by decide)]; exact h1) (by rw [fr2 97 (by decide)]; exact h2) (fun x hx => by rw [fr2 122 (by decide), fr2 124 (by decide)]; exact h3 x hx) (fun x hx => by
      constructor
      · rw [up_ne (by decide), up_eq]
        split
        · next w => rw [show x = p by omega]
        · exact (h4 x (by omega)).1
      · rw [up_eq]
        split
        · next w => rw [show x = p by omega]
        · rw [up_ne (by decide)]
          exact (h4 x (by omega)).2)
    refine ⟨I', ?_, r2, fun y hy => ?_, fr2.trans r4⟩
    · rw [fx_s, bd_199_3, ← r1]
      simp (disch := omega) only [h1, h2, lits, ltN, hp', inN, clN, p6, l12, if_true, mulN, addN, a1, a2, up_ne]
    · obtain ⟨u, v⟩ := r3 y hy
      rw [u, v]
      constructor
      · rw [up_ne (by decide), up_nk (by omega)]
      · rw [up_nk (by omega), up_ne (by decide)]
theorem f199_5 {C H k s l a : Nat} {P M0 : Nat → Nat} (hc : CH C H) (ha : a < H) (hP : ∀ p, p < C → P p < C) : ∀ (j p n : Nat) (I : Nat → Nat → Int32), p + j = C → j < n → MD C H k s I → SM H (bef (ct C H k C) (ord a a l H)) I → (∀ x, x < C → I 122 x = nI (P x)) → (∀ x, x < p → I 127 (np C H k s l a a x) = nI (P x)) → (∀ c, c < C → I 124 c = nI (M0 c + ad P (fl C H k a) p c)) → ∃ I', fx (fun _ _ _ => none) bd_199_5 n (nI a) (nI p) I = lb_199_9 (nI 0) I' ∧ (∀ x, x < C → I' 127 (np C H k s l a a x) = nI (P x)) ∧ (∀ c, c < C → I' 124 c = nI (M0 c + ad P (fl C H k a) C c)) ∧ Fr [124, 127] I I'
  | _, _, 0, _, _, h, _, _, _, _, _ => absurd h (Nat.not_lt_zero _)
  | 0, p, n + 1, I, e, _, h, hs, h5, h8, h9 => by
    have c4 := hc.2.2.2
    obtain rfl : p = C := by omega
    refine ⟨I, ?_, h8, h9, Fr.refl _ _⟩
    rw [fx_s, bd_199_5]
    simp (disch := omega) only [h.1.1, lits, ltN, Nat.lt_irrefl, if_false]
  | j + 1, p, n + 1, I, e, hn, h, hs, h5, h8, h9 => by
    have hC := hc
    obtain ⟨c1, c2, c3, c4⟩ := hc
    have hp' : p < C := by omega
    have p6 : p < 60 := by omega
    have nl := np_lt (k := k) (s := s) (l := l) c1 c3 ha ha hp'
    have n6 : np C H k s l a a p < 60 := by omega
    have pl := hP p hp'
    have pl6 : P p < 60 := by omega
    have hl := hp_lt (k := k) c1 c3 hp'
    have a0 := h.2.1 p hp'
    have a5 := h5 p hp'
    have a9 := h9 _ pl
    have fr1 : Fr [124, 127] I (up I 124 (P p) (nI (M0 (P p) + ad P (fl C H k a) p (P p) + fl C H k a p))) := (Fr.refl _ _).up (by decide)
    have d1 := h.fr fr1 (by decide) (by decide) (by decide) (by decide)
    have g : f_170 (nI p) (up I 124 (P p) (nI (M0 (P p) + ad P (fl C H k a) p (P p) + fl C H k a p))) = some (nI (np C H k s l a a p)) := f170_s hC d1 (fun x hx => by rw [fr1 113 (by decide)]; exact hs x hx) hp'
    have fr2 : Fr [124, 127] I (up (up I 124 (P p) (nI (M0 (P p) + ad P (fl C H k a) p (P p) + fl C H k a p))) 127 (np C H k s l a a p) (nI (P p))) := fr1.up (by decide)
    obtain ⟨I', r1, r2, r3, r4⟩ := f199_5 hC ha hP j (p + 1) n _ (by omega) (by omega) (h.fr fr2 (by decide) (by decide) (by decide) (by decide)) (fun x hx => by rw [fr2 113 (by decide)]; exact hs x hx) (fun x hx => by rw [fr2 122 (by decide)]; exact h5 x hx) (fun x hx => by
        rw [up_eq]
        split
        · next w => rw [np_inj c1 c3 ha ha (by omega) hp' w]
        · next w =>
          rw [up_ne (by decide)]
          exact h8 x (by
            by_cases w2 : x = p
            · rw [w2] at w
              exact absurd rfl w
            · omega)) (fun c hc' => by
        rw [up_ne (by decide), up_eq, ad]
        split
        · next w => rw [w, if_pos rfl, Nat.add_assoc]
        · next w => rw [h9 c hc', if_neg (fun e => w e.symm), Nat.add_zero])
    refine ⟨I', ?_, r2, r3, fr2.trans r4⟩
    rw [fx_s, bd_199_5, ← r1]
    unfold lb_199_7
    simp (disch := omega) only [h.1.1, lits, ltN, hp', inN, clN, p6, pl6, if_true, a5, a0, eqN, a9, addN]
    have fl0 : hp C H k p = a → fl C H k a p = 0 := fun w => if_pos w
    have fl1 : ¬ hp C H k p = a → fl C H k a p = 1 := fun w => if_neg w
    by_cases w : hp C H k p = a
    · rw [fl0 w] at g ⊢
      rw [if_pos w, g, Option.bind_some]
      simp (disch := omega) only [inN, clN, n6, if_true, up_ne, a5]
    · rw [fl1 w] at g ⊢
      rw [if_neg w, g, Option.bind_some]
      simp (disch := omega) only [inN, clN, n6, if_true, up_ne, a5]
theorem f199_9 {C : Nat} {Q : Nat → Nat} (hC : C ≤ 60) : ∀ (j p n : Nat) (I : Nat → Nat → Int32), p + j = C → j < n → I 97 1 = nI C → (∀ x, x < C → I 127 x = nI (Q x)) → (∀ x, x < p → I 122 x = nI (Q x)) → ∃ I', fx (fun _ _ => none) bd_199_9 n (nI p) I = ((f_198 I').bind fun q7 => some (q7, I')) ∧ (∀ x, x < C → I' 122 x = nI (Q x)) ∧ Fr [122] I I'
  | _, _, 0, _, _, h, _, _, _ => absurd h (Nat.not_lt_zero _)
  | 0, p, n + 1, I, e, _, h1, h2, h3 => by
    obtain rfl : p = C := by omega
    refine ⟨I, ?_, h3, Fr.refl _ _⟩
    rw [fx_s, bd_199_9]
    simp (disch := omega) only [h1, ltN, Nat.lt_irrefl, if_false]
  | j + 1, p, n + 1, I, e, hn, h1, h2, h3 => by
    have hp' : p < C := by omega
    have p6 : p < 60 := by omega
    have a2 := h2 p hp'
    obtain ⟨I', r1, r2, r3⟩ := f199_9 hC j (p + 1) n (up I 122 p (nI (Q p))) (by omega) (by omega) (by rw [up_ne (by decide)]; exact h1) (fun x hx => by rw [up_ne (by decide)]; exact h2 x hx) (fun x hx => by
      rw [up_eq]
      split
      · next w => rw [w]
      · exact h3 x (by omega))
    refine ⟨I', ?_, r2, ((Fr.refl _ _).up (by decide)).trans r3⟩
    rw [fx_s, bd_199_9, ← r1]
    simp (disch := omega) only [h1, lits, ltN, hp', inN, clN, p6, if_true, a2, addN]
theorem f200_2 {C A : Nat} {P M0 : Nat → Nat} (hC : C ≤ 60) (hA : A < 20) : ∀ (j p n : Nat) (I : Nat → Nat → Int32), p + j = C → j < n → I 97 1 = nI C → I 97 52 = nI A → (∀ x, x < C → I 125 (60 * A + x) = nI (P x) ∧ I 126 (60 * A + x) = nI (M0 x)) → (∀ x, x < p → I 122 x = nI (P x) ∧ I 124 x = nI (M0 x)) → ∃ I', fx (fun _ _ => none) bd_200_2 n (nI p) I = some (nI A, I') ∧ (∀ x, x < C → I' 122 x = nI (P x) ∧ I' 124 x = nI (M0 x)) ∧ Fr [122, 124] I I'
  | _, _, 0, _, _, h, _, _, _, _ => absurd h (Nat.not_lt_zero _)
  | 0, p, n + 1, I, e, _, h1, h2, h3, h4 => by
    obtain rfl : p = C := by omega
    refine ⟨I, ?_, h4, Fr.refl _ _⟩
    rw [fx_s, bd_200_2]
    simp (disch := omega) only [h1, h2, ltN, Nat.lt_irrefl, if_false]
  | j + 1, p, n + 1, I, e, hn, h1, h2, h3, h4 => by
    have hp' : p < C := by omega
    have p6 : p < 60 := by omega
    have l12 : 60 * A + p < 1200 := by omega
    obtain ⟨a1, a2⟩ := h3 p hp'
    have fr2 : Fr [122, 124] I (up (up I 122 p (nI (P p))) 124 p (nI (M0 p))) := ((Fr.refl _ _).up (by decide)).up (by decide)
    obtain ⟨I', r1, r2, r4⟩ := f200_2 (P := P) (M0 := M0) hC hA j (p + 1) n (up (up I 122 p (nI (P p))) 124 p (nI (M0 p))) (by omega) (by omega) (by rw [fr2 97 (by decide)]; exact h1) (by rw [fr2 97 (by decide)]; exact h2) (fun x hx => by rw [fr2 125 (by decide), fr2 126 (by decide)]; exact h3 x hx) (fun x hx => by
      constructor
      · rw [up_ne (by decide), up_eq]
        split
        · next w => rw [w]
        · exact (h4 x (by omega)).1
      · rw [up_eq]
        split
        · next w => rw [w]
        · rw [up_ne (by decide)]
          exact (h4 x (by omega)).2)
    refine ⟨I', ?_, r2, fr2.trans r4⟩
    rw [fx_s, bd_200_2, ← r1]
    simp (disch := omega) only [h1, h2, lits, ltN, hp', inN, clN, p6, l12, if_true, mulN, addN, a1, a2, up_ne]
/-- how many fit -/
def fitN (M : Nat) (f : Nat → Nat) : Nat → Nat
  | 0 => 0
  | c + 1 => fitN M f c + if M < f c then 0 else 1
def fitB (M : Nat) (f : Nat → Nat) : Nat → Nat
  | 0 => 0
  | c + 1 => if M < f c then fitB M f c else fitB M f c ||| 2 ^ c
theorem fitB_lt (M : Nat) (f : Nat → Nat) : ∀ c, fitB M f c < 2 ^ c
  | 0 => by rw [fitB]; decide
  | c + 1 => by
    have := fitB_lt M f c
    have h2 : 2 ^ c < 2 ^ (c + 1) := Nat.pow_lt_pow_right (by decide) (by omega)
    rw [fitB]
    split
    · omega
    · exact Nat.or_lt_two_pow (by omega) h2
theorem fitB_pc (M : Nat) (f : Nat → Nat) : ∀ c, c ≤ 60 → pc 64 (fitB M f c) = fitN M f c
  | 0, _ => pc_zero 64
  | c + 1, h => by
    have ih := fitB_pc M f c (by omega)
    rw [fitB, fitN]
    split
    · rw [ih, Nat.add_zero]
    · rw [pc_or (by omega) (Nat.testBit_lt_two_pow (fitB_lt M f c)), ih]
theorem fitN_le (M : Nat) (f : Nat → Nat) : ∀ c, fitN M f c ≤ c
  | 0 => Nat.le_refl 0
  | c + 1 => by
    have := fitN_le M f c
    rw [fitN]
    split <;> omega
theorem f66_s {C M : Nat} {f : Nat → Nat} {I : Nat → Nat → Int32} (hC : C ≤ 60) (hM : M ≤ 2) (h4 : I 79 4 = nI C) (h6 : I 79 6 = nI M) (hf : ∀ c, c < C → f c ≤ 2000 ∧ I 90 c = nI (f c)) : f_66 I = some (lN (fitB M f C)) := by
  have main : ∀ (j c n : Nat), c + j = C → j < n → fx (fun _ _ _ => none) bd_66_1 n (lN (fitB M f c)) (nI c) I = some (lN (fitB M f C)) := by
    intro j
    induction j with
    | zero =>
      intro c n e hn
      obtain rfl : c = C := by omega
      cases n with
      | zero => omega
      | succ n =>
        rw [fx_s, bd_66_1]
        simp (disch := omega) only [h4, ltN, Nat.lt_irrefl, if_false]
    | succ j ih =>
      intro c n e hn
      cases n with
      | zero => omega
      | succ n =>
        have hc : c < C := by omega
        obtain ⟨l1, g1⟩ := hf c hc
        have lb := fitB_lt M f c
        have l60 : 2 ^ c ≤ 2 ^ 60 := Nat.pow_le_pow_right (by decide) (by omega)
        have o := (orL (n := fitB M f c) (q := c) (by omega) (by omega)).1
        rw [← ih (c + 1) n (by omega) (by omega), fx_s, bd_66_1, fitB]
        unfold lb_66_2
        simp (disch := omega) only [h4, h6, lits, ltN, hc, if_true, atN, g1, addN]
        split
        · rfl
        · rw [← o]
  exact main C 0 FU (by omega) (FU_big (by omega))
theorem f198_s {C M : Nat} {f : Nat → Nat} {I : Nat → Nat → Int32} (hC : C ≤ 60) (hM : M ≤ 2) (h4 : I 97 1 = nI C) (h6 : I 97 4 = nI M) (hf : ∀ c, c < C → f c ≤ 2000 ∧ I 124 c = nI (f c)) : f_198 I = some (nI (fitN M f C)) := by
  have main : ∀ (j c n : Nat), c + j = C → j < n → fx (fun _ _ _ => none) bd_198_1 n (nI (fitN M f c)) (nI c) I = some (nI (fitN M f C)) := by
    intro j
    induction j with
    | zero =>
      intro c n e hn
      obtain rfl : c = C := by omega
      cases n with
      | zero => omega
      | succ n =>
        rw [fx_s, bd_198_1]
        simp (disch := omega) only [h4, ltN, Nat.lt_irrefl, if_false]
    | succ j ih =>
      intro c n e hn
      cases n with
      | zero => omega
      | succ n =>
        have hc : c < C := by omega
        have c6 : c < 60 := by omega
        obtain ⟨l1, g1⟩ := hf c hc
        rw [← ih (c + 1) n (by omega) (by omega), fx_s, bd_198_1, fitN]
        unfold lb_198_3
        simp (disch := omega) only [h4, h6, lits, ltN, hc, inN, clN, c6, if_true, g1, addN]
        split <;> rfl
  exact main C 0 FU (by omega) (FU_big (by omega))
theorem f202_s {C M : Nat} {f : Nat → Nat} {I : Nat → Nat → Int32} (hC : C ≤ 60) (hM : M ≤ 2) (h4 : I 97 1 = nI C) (h6 : I 97 4 = nI M) (hf : ∀ c, c < C → f c ≤ 2000 ∧ I 124 c = nI (f c)) : f_202 I = some (lN (fitB M f C), up I 97 0 (nI 0)) := by
  have h4' : (up I 97 0 (nI 0)) 97 1 = nI C := by rw [up_nk (by decide)]; exact h4
  have h6' : (up I 97 0 (nI 0)) 97 4 = nI M := by rw [up_nk (by decide)]; exact h6
  have main : ∀ (j c n : Nat), c + j = C → j < n → fx (fun _ _ _ => none) bd_202_1 n (lN (fitB M f c)) (nI c) (up I 97 0 (nI 0)) = some (lN (fitB M f C), up I 97 0 (nI 0)) := by
    intro j
    induction j with
    | zero =>
      intro c n e hn
      obtain rfl : c = C := by omega
      cases n with
      | zero => omega
      | succ n =>
        rw [fx_s, bd_202_1]
        simp (disch := omega) only [h4', ltN, Nat.lt_irrefl, if_false]
    | succ j ih =>
      intro c n e hn
      cases n with
      | zero => omega
      | succ n =>
        have hc : c < C := by omega
        have c6 : c < 60 := by omega
        obtain ⟨l1, g1⟩ := hf c hc
        have g1' : (up I 97 0 (nI 0)) 124 c = nI (f c) := by rw [up_ne (by decide)]; exact g1
        have lb := fitB_lt M f c
        have l60 : 2 ^ c ≤ 2 ^ 60 := Nat.pow_le_pow_right (by decide) (by omega)
        have o := (orL (n := fitB M f c) (q := c) (by omega) (by omega)).1
        rw [← ih (c + 1) n (by omega) (by omega), fx_s, bd_202_1, fitB]
        unfold lb_202_3
        simp (disch := omega) only [h4', h6', lits, ltN, hc, inN, clN, c6, if_true, g1', addN]
        split
        · rw [Int64.or_zero]
        · rw [← o]
  exact main C 0 FU (by omega) (FU_big (by omega))
