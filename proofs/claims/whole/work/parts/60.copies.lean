/-! The model's copies (one shape, written by a program) -/
theorem cp_134 (I : Nat → Nat → Int32) : ∃ I', f_134 I = some I' ∧ (∀ i, i < 8 → I' 98 i = I 104 i) ∧ Fr [98] I I' := by
  have main : ∀ (j p n : Nat) (I : Nat → Nat → Int32), p + j = 8 → j < n → ∃ I', fx (fun _ _ => none) bd_134_1 n (nI p) I = some I' ∧ (∀ i, i < p → I' 98 i = I 98 i) ∧ (∀ i, p ≤ i → i < 8 → I' 98 i = I 104 i) ∧ Fr [98] I I' := by
    intro j
    induction j with
    | zero =>
      intro p n I e hn
      obtain rfl : p = 8 := by omega
      cases n with
      | zero => omega
      | succ n =>
        refine ⟨I, ?_, fun i _ => rfl, fun i h1 h2 => by omega, Fr.refl _ _⟩
        rw [fx_s, bd_134_1]
        simp (disch := omega) only [ltN, Nat.lt_irrefl, if_false]
    | succ j ih =>
      intro p n I e hn
      cases n with
      | zero => omega
      | succ n =>
        have hp : p < 8 := by omega
        obtain ⟨I', r1, r2, r3, r4⟩ := ih (p + 1) n (up I 98 p (I 104 p)) (by omega) (by omega)
        refine ⟨I', ?_, fun i hi => ?_, fun i h1 h2 => ?_, ((Fr.refl _ _).up (by decide)).trans r4⟩
        · rw [fx_s, bd_134_1, ← r1]
          simp (disch := omega) only [lits, ltN, inN, clN, hp, if_true, addN]
        · rw [r2 i (by omega), up_nk (by omega)]
        · by_cases w : i = p
          · rw [w, r2 p (by omega), up_at]
          · rw [r3 i (by omega) h2, up_ne (by decide)]
  obtain ⟨I', r1, r2, r3, r4⟩ := main 8 0 FU I rfl (FU_big (by decide))
  exact ⟨I', r1, fun i hi => r3 i (Nat.zero_le i) hi, r4⟩
theorem cp_134_97_105_99 (I : Nat → Nat → Int32) : ∃ I', f_134_97_105_99 I = some I' ∧ (∀ i, i < 8 → I' 99 i = I 105 i) ∧ Fr [99] I I' := by
  have main : ∀ (j p n : Nat) (I : Nat → Nat → Int32), p + j = 8 → j < n → ∃ I', fx (fun _ _ => none) bd_134_97_105_99_1 n (nI p) I = some I' ∧ (∀ i, i < p → I' 99 i = I 99 i) ∧ (∀ i, p ≤ i → i < 8 → I' 99 i = I 105 i) ∧ Fr [99] I I' := by
    intro j
    induction j with
    | zero =>
      intro p n I e hn
      obtain rfl : p = 8 := by omega
      cases n with
      | zero => omega
      | succ n =>
        refine ⟨I, ?_, fun i _ => rfl, fun i h1 h2 => by omega, Fr.refl _ _⟩
        rw [fx_s, bd_134_97_105_99_1]
        simp (disch := omega) only [ltN, Nat.lt_irrefl, if_false]
    | succ j ih =>
      intro p n I e hn
      cases n with
      | zero => omega
      | succ n =>
        have hp : p < 8 := by omega
        obtain ⟨I', r1, r2, r3, r4⟩ := ih (p + 1) n (up I 99 p (I 105 p)) (by omega) (by omega)
        refine ⟨I', ?_, fun i hi => ?_, fun i h1 h2 => ?_, ((Fr.refl _ _).up (by decide)).trans r4⟩
        · rw [fx_s, bd_134_97_105_99_1, ← r1]
          simp (disch := omega) only [lits, ltN, inN, clN, hp, if_true, addN]
        · rw [r2 i (by omega), up_nk (by omega)]
        · by_cases w : i = p
          · rw [w, r2 p (by omega), up_at]
          · rw [r3 i (by omega) h2, up_ne (by decide)]
  obtain ⟨I', r1, r2, r3, r4⟩ := main 8 0 FU I rfl (FU_big (by decide))
  exact ⟨I', r1, fun i hi => r3 i (Nat.zero_le i) hi, r4⟩
theorem cp_134_97_106_100 (I : Nat → Nat → Int32) : ∃ I', f_134_97_106_100 I = some I' ∧ (∀ i, i < 8 → I' 100 i = I 106 i) ∧ Fr [100] I I' := by
  have main : ∀ (j p n : Nat) (I : Nat → Nat → Int32), p + j = 8 → j < n → ∃ I', fx (fun _ _ => none) bd_134_97_106_100_1 n (nI p) I = some I' ∧ (∀ i, i < p → I' 100 i = I 100 i) ∧ (∀ i, p ≤ i → i < 8 → I' 100 i = I 106 i) ∧ Fr [100] I I' := by
    intro j
    induction j with
    | zero =>
      intro p n I e hn
      obtain rfl : p = 8 := by omega
      cases n with
      | zero => omega
      | succ n =>
        refine ⟨I, ?_, fun i _ => rfl, fun i h1 h2 => by omega, Fr.refl _ _⟩
        rw [fx_s, bd_134_97_106_100_1]
        simp (disch := omega) only [ltN, Nat.lt_irrefl, if_false]
    | succ j ih =>
      intro p n I e hn
      cases n with
      | zero => omega
      | succ n =>
        have hp : p < 8 := by omega
        obtain ⟨I', r1, r2, r3, r4⟩ := ih (p + 1) n (up I 100 p (I 106 p)) (by omega) (by omega)
        refine ⟨I', ?_, fun i hi => ?_, fun i h1 h2 => ?_, ((Fr.refl _ _).up (by decide)).trans r4⟩
        · rw [fx_s, bd_134_97_106_100_1, ← r1]
          simp (disch := omega) only [lits, ltN, inN, clN, hp, if_true, addN]
        · rw [r2 i (by omega), up_nk (by omega)]
        · by_cases w : i = p
          · rw [w, r2 p (by omega), up_at]
          · rw [r3 i (by omega) h2, up_ne (by decide)]
  obtain ⟨I', r1, r2, r3, r4⟩ := main 8 0 FU I rfl (FU_big (by decide))
  exact ⟨I', r1, fun i hi => r3 i (Nat.zero_le i) hi, r4⟩
theorem cp_134_97_107_101 (I : Nat → Nat → Int32) : ∃ I', f_134_97_107_101 I = some I' ∧ (∀ i, i < 1300 → I' 101 i = I 107 i) ∧ Fr [101] I I' := by
  have main : ∀ (j p n : Nat) (I : Nat → Nat → Int32), p + j = 1300 → j < n → ∃ I', fx (fun _ _ => none) bd_134_97_107_101_1 n (nI p) I = some I' ∧ (∀ i, i < p → I' 101 i = I 101 i) ∧ (∀ i, p ≤ i → i < 1300 → I' 101 i = I 107 i) ∧ Fr [101] I I' := by
    intro j
    induction j with
    | zero =>
      intro p n I e hn
      obtain rfl : p = 1300 := by omega
      cases n with
      | zero => omega
      | succ n =>
        refine ⟨I, ?_, fun i _ => rfl, fun i h1 h2 => by omega, Fr.refl _ _⟩
        rw [fx_s, bd_134_97_107_101_1]
        simp (disch := omega) only [ltN, Nat.lt_irrefl, if_false]
    | succ j ih =>
      intro p n I e hn
      cases n with
      | zero => omega
      | succ n =>
        have hp : p < 1300 := by omega
        obtain ⟨I', r1, r2, r3, r4⟩ := ih (p + 1) n (up I 101 p (I 107 p)) (by omega) (by omega)
        refine ⟨I', ?_, fun i hi => ?_, fun i h1 h2 => ?_, ((Fr.refl _ _).up (by decide)).trans r4⟩
        · rw [fx_s, bd_134_97_107_101_1, ← r1]
          simp (disch := omega) only [lits, ltN, inN, clN, hp, if_true, addN]
        · rw [r2 i (by omega), up_nk (by omega)]
        · by_cases w : i = p
          · rw [w, r2 p (by omega), up_at]
          · rw [r3 i (by omega) h2, up_ne (by decide)]
  obtain ⟨I', r1, r2, r3, r4⟩ := main 1300 0 FU I rfl (FU_big (by decide))
  exact ⟨I', r1, fun i hi => r3 i (Nat.zero_le i) hi, r4⟩
theorem cp_134_97_122_123 (I : Nat → Nat → Int32) : ∃ I', f_134_97_122_123 I = some I' ∧ (∀ i, i < 60 → I' 123 i = I 122 i) ∧ Fr [123] I I' := by
  have main : ∀ (j p n : Nat) (I : Nat → Nat → Int32), p + j = 60 → j < n → ∃ I', fx (fun _ _ => none) bd_134_97_122_123_1 n (nI p) I = some I' ∧ (∀ i, i < p → I' 123 i = I 123 i) ∧ (∀ i, p ≤ i → i < 60 → I' 123 i = I 122 i) ∧ Fr [123] I I' := by
    intro j
    induction j with
    | zero =>
      intro p n I e hn
      obtain rfl : p = 60 := by omega
      cases n with
      | zero => omega
      | succ n =>
        refine ⟨I, ?_, fun i _ => rfl, fun i h1 h2 => by omega, Fr.refl _ _⟩
        rw [fx_s, bd_134_97_122_123_1]
        simp (disch := omega) only [ltN, Nat.lt_irrefl, if_false]
    | succ j ih =>
      intro p n I e hn
      cases n with
      | zero => omega
      | succ n =>
        have hp : p < 60 := by omega
        obtain ⟨I', r1, r2, r3, r4⟩ := ih (p + 1) n (up I 123 p (I 122 p)) (by omega) (by omega)
        refine ⟨I', ?_, fun i hi => ?_, fun i h1 h2 => ?_, ((Fr.refl _ _).up (by decide)).trans r4⟩
        · rw [fx_s, bd_134_97_122_123_1, ← r1]
          simp (disch := omega) only [lits, ltN, inN, clN, hp, if_true, addN]
        · rw [r2 i (by omega), up_nk (by omega)]
        · by_cases w : i = p
          · rw [w, r2 p (by omega), up_at]
          · rw [r3 i (by omega) h2, up_ne (by decide)]
  obtain ⟨I', r1, r2, r3, r4⟩ := main 60 0 FU I rfl (FU_big (by decide))
  exact ⟨I', r1, fun i hi => r3 i (Nat.zero_le i) hi, r4⟩
theorem cp_134_97_122_128 (I : Nat → Nat → Int32) : ∃ I', f_134_97_122_128 I = some I' ∧ (∀ i, i < 60 → I' 128 i = I 122 i) ∧ Fr [128] I I' := by
  have main : ∀ (j p n : Nat) (I : Nat → Nat → Int32), p + j = 60 → j < n → ∃ I', fx (fun _ _ => none) bd_134_97_122_128_1 n (nI p) I = some I' ∧ (∀ i, i < p → I' 128 i = I 128 i) ∧ (∀ i, p ≤ i → i < 60 → I' 128 i = I 122 i) ∧ Fr [128] I I' := by
    intro j
    induction j with
    | zero =>
      intro p n I e hn
      obtain rfl : p = 60 := by omega
      cases n with
      | zero => omega
      | succ n =>
        refine ⟨I, ?_, fun i _ => rfl, fun i h1 h2 => by omega, Fr.refl _ _⟩
        rw [fx_s, bd_134_97_122_128_1]
        simp (disch := omega) only [ltN, Nat.lt_irrefl, if_false]
    | succ j ih =>
      intro p n I e hn
      cases n with
      | zero => omega
      | succ n =>
        have hp : p < 60 := by omega
        obtain ⟨I', r1, r2, r3, r4⟩ := ih (p + 1) n (up I 128 p (I 122 p)) (by omega) (by omega)
        refine ⟨I', ?_, fun i hi => ?_, fun i h1 h2 => ?_, ((Fr.refl _ _).up (by decide)).trans r4⟩
        · rw [fx_s, bd_134_97_122_128_1, ← r1]
          simp (disch := omega) only [lits, ltN, inN, clN, hp, if_true, addN]
        · rw [r2 i (by omega), up_nk (by omega)]
        · by_cases w : i = p
          · rw [w, r2 p (by omega), up_at]
          · rw [r3 i (by omega) h2, up_ne (by decide)]
  obtain ⟨I', r1, r2, r3, r4⟩ := main 60 0 FU I rfl (FU_big (by decide))
  exact ⟨I', r1, fun i hi => r3 i (Nat.zero_le i) hi, r4⟩
theorem cp_134_97_123_129 (I : Nat → Nat → Int32) : ∃ I', f_134_97_123_129 I = some I' ∧ (∀ i, i < 60 → I' 129 i = I 123 i) ∧ Fr [129] I I' := by
  have main : ∀ (j p n : Nat) (I : Nat → Nat → Int32), p + j = 60 → j < n → ∃ I', fx (fun _ _ => none) bd_134_97_123_129_1 n (nI p) I = some I' ∧ (∀ i, i < p → I' 129 i = I 129 i) ∧ (∀ i, p ≤ i → i < 60 → I' 129 i = I 123 i) ∧ Fr [129] I I' := by
    intro j
    induction j with
    | zero =>
      intro p n I e hn
      obtain rfl : p = 60 := by omega
      cases n with
      | zero => omega
      | succ n =>
        refine ⟨I, ?_, fun i _ => rfl, fun i h1 h2 => by omega, Fr.refl _ _⟩
        rw [fx_s, bd_134_97_123_129_1]
        simp (disch := omega) only [ltN, Nat.lt_irrefl, if_false]
    | succ j ih =>
      intro p n I e hn
      cases n with
      | zero => omega
      | succ n =>
        have hp : p < 60 := by omega
        obtain ⟨I', r1, r2, r3, r4⟩ := ih (p + 1) n (up I 129 p (I 123 p)) (by omega) (by omega)
        refine ⟨I', ?_, fun i hi => ?_, fun i h1 h2 => ?_, ((Fr.refl _ _).up (by decide)).trans r4⟩
        · rw [fx_s, bd_134_97_123_129_1, ← r1]
          simp (disch := omega) only [lits, ltN, inN, clN, hp, if_true, addN]
        · rw [r2 i (by omega), up_nk (by omega)]
        · by_cases w : i = p
          · rw [w, r2 p (by omega), up_at]
          · rw [r3 i (by omega) h2, up_ne (by decide)]
  obtain ⟨I', r1, r2, r3, r4⟩ := main 60 0 FU I rfl (FU_big (by decide))
  exact ⟨I', r1, fun i hi => r3 i (Nat.zero_le i) hi, r4⟩
theorem cp_134_97_124_130 (I : Nat → Nat → Int32) : ∃ I', f_134_97_124_130 I = some I' ∧ (∀ i, i < 60 → I' 130 i = I 124 i) ∧ Fr [130] I I' := by
  have main : ∀ (j p n : Nat) (I : Nat → Nat → Int32), p + j = 60 → j < n → ∃ I', fx (fun _ _ => none) bd_134_97_124_130_1 n (nI p) I = some I' ∧ (∀ i, i < p → I' 130 i = I 130 i) ∧ (∀ i, p ≤ i → i < 60 → I' 130 i = I 124 i) ∧ Fr [130] I I' := by
    intro j
    induction j with
    | zero =>
      intro p n I e hn
      obtain rfl : p = 60 := by omega
      cases n with
      | zero => omega
      | succ n =>
        refine ⟨I, ?_, fun i _ => rfl, fun i h1 h2 => by omega, Fr.refl _ _⟩
        rw [fx_s, bd_134_97_124_130_1]
        simp (disch := omega) only [ltN, Nat.lt_irrefl, if_false]
    | succ j ih =>
      intro p n I e hn
      cases n with
      | zero => omega
      | succ n =>
        have hp : p < 60 := by omega
        obtain ⟨I', r1, r2, r3, r4⟩ := ih (p + 1) n (up I 130 p (I 124 p)) (by omega) (by omega)
        refine ⟨I', ?_, fun i hi => ?_, fun i h1 h2 => ?_, ((Fr.refl _ _).up (by decide)).trans r4⟩
        · rw [fx_s, bd_134_97_124_130_1, ← r1]
          simp (disch := omega) only [lits, ltN, inN, clN, hp, if_true, addN]
        · rw [r2 i (by omega), up_nk (by omega)]
        · by_cases w : i = p
          · rw [w, r2 p (by omega), up_at]
          · rw [r3 i (by omega) h2, up_ne (by decide)]
  obtain ⟨I', r1, r2, r3, r4⟩ := main 60 0 FU I rfl (FU_big (by decide))
  exact ⟨I', r1, fun i hi => r3 i (Nat.zero_le i) hi, r4⟩
theorem cp_134_97_125_131 (I : Nat → Nat → Int32) : ∃ I', f_134_97_125_131 I = some I' ∧ (∀ i, i < 1200 → I' 131 i = I 125 i) ∧ Fr [131] I I' := by
  have main : ∀ (j p n : Nat) (I : Nat → Nat → Int32), p + j = 1200 → j < n → ∃ I', fx (fun _ _ => none) bd_134_97_125_131_1 n (nI p) I = some I' ∧ (∀ i, i < p → I' 131 i = I 131 i) ∧ (∀ i, p ≤ i → i < 1200 → I' 131 i = I 125 i) ∧ Fr [131] I I' := by
    intro j
    induction j with
    | zero =>
      intro p n I e hn
      obtain rfl : p = 1200 := by omega
      cases n with
      | zero => omega
      | succ n =>
        refine ⟨I, ?_, fun i _ => rfl, fun i h1 h2 => by omega, Fr.refl _ _⟩
        rw [fx_s, bd_134_97_125_131_1]
        simp (disch := omega) only [ltN, Nat.lt_irrefl, if_false]
    | succ j ih =>
      intro p n I e hn
      cases n with
      | zero => omega
      | succ n =>
        have hp : p < 1200 := by omega
        obtain ⟨I', r1, r2, r3, r4⟩ := ih (p + 1) n (up I 131 p (I 125 p)) (by omega) (by omega)
        refine ⟨I', ?_, fun i hi => ?_, fun i h1 h2 => ?_, ((Fr.refl _ _).up (by decide)).trans r4⟩
        · rw [fx_s, bd_134_97_125_131_1, ← r1]
          simp (disch := omega) only [lits, ltN, inN, clN, hp, if_true, addN]
        · rw [r2 i (by omega), up_nk (by omega)]
        · by_cases w : i = p
          · rw [w, r2 p (by omega), up_at]
          · rw [r3 i (by omega) h2, up_ne (by decide)]
  obtain ⟨I', r1, r2, r3, r4⟩ := main 1200 0 FU I rfl (FU_big (by decide))
  exact ⟨I', r1, fun i hi => r3 i (Nat.zero_le i) hi, r4⟩
theorem cp_134_97_126_132 (I : Nat → Nat → Int32) : ∃ I', f_134_97_126_132 I = some I' ∧ (∀ i, i < 1200 → I' 132 i = I 126 i) ∧ Fr [132] I I' := by
  have main : ∀ (j p n : Nat) (I : Nat → Nat → Int32), p + j = 1200 → j < n → ∃ I', fx (fun _ _ => none) bd_134_97_126_132_1 n (nI p) I = some I' ∧ (∀ i, i < p → I' 132 i = I 132 i) ∧ (∀ i, p ≤ i → i < 1200 → I' 132 i = I 126 i) ∧ Fr [132] I I' := by
    intro j
    induction j with
    | zero =>
      intro p n I e hn
      obtain rfl : p = 1200 := by omega
      cases n with
      | zero => omega
      | succ n =>
        refine ⟨I, ?_, fun i _ => rfl, fun i h1 h2 => by omega, Fr.refl _ _⟩
        rw [fx_s, bd_134_97_126_132_1]
        simp (disch := omega) only [ltN, Nat.lt_irrefl, if_false]
    | succ j ih =>
      intro p n I e hn
      cases n with
      | zero => omega
      | succ n =>
        have hp : p < 1200 := by omega
        obtain ⟨I', r1, r2, r3, r4⟩ := ih (p + 1) n (up I 132 p (I 126 p)) (by omega) (by omega)
        refine ⟨I', ?_, fun i hi => ?_, fun i h1 h2 => ?_, ((Fr.refl _ _).up (by decide)).trans r4⟩
        · rw [fx_s, bd_134_97_126_132_1, ← r1]
          simp (disch := omega) only [lits, ltN, inN, clN, hp, if_true, addN]
        · rw [r2 i (by omega), up_nk (by omega)]
        · by_cases w : i = p
          · rw [w, r2 p (by omega), up_at]
          · rw [r3 i (by omega) h2, up_ne (by decide)]
  obtain ⟨I', r1, r2, r3, r4⟩ := main 1200 0 FU I rfl (FU_big (by decide))
  exact ⟨I', r1, fun i hi => r3 i (Nat.zero_le i) hi, r4⟩
theorem cp_134_97_128_122 (I : Nat → Nat → Int32) : ∃ I', f_134_97_128_122 I = some I' ∧ (∀ i, i < 60 → I' 122 i = I 128 i) ∧ Fr [122] I I' := by
  have main : ∀ (j p n : Nat) (I : Nat → Nat → Int32), p + j = 60 → j < n → ∃ I', fx (fun _ _ => none) bd_134_97_128_122_1 n (nI p) I = some I' ∧ (∀ i, i < p → I' 122 i = I 122 i) ∧ (∀ i, p ≤ i → i < 60 → I' 122 i = I 128 i) ∧ Fr [122] I I' := by
    intro j
    induction j with
    | zero =>
      intro p n I e hn
      obtain rfl : p = 60 := by omega
      cases n with
      | zero => omega
      | succ n =>
        refine ⟨I, ?_, fun i _ => rfl, fun i h1 h2 => by omega, Fr.refl _ _⟩
        rw [fx_s, bd_134_97_128_122_1]
        simp (disch := omega) only [ltN, Nat.lt_irrefl, if_false]
    | succ j ih =>
      intro p n I e hn
      cases n with
      | zero => omega
      | succ n =>
        have hp : p < 60 := by omega
        obtain ⟨I', r1, r2, r3, r4⟩ := ih (p + 1) n (up I 122 p (I 128 p)) (by omega) (by omega)
        refine ⟨I', ?_, fun i hi => ?_, fun i h1 h2 => ?_, ((Fr.refl _ _).up (by decide)).trans r4⟩
        · rw [fx_s, bd_134_97_128_122_1, ← r1]
          simp (disch := omega) only [lits, ltN, inN, clN, hp, if_true, addN]
        · rw [r2 i (by omega), up_nk (by omega)]
        · by_cases w : i = p
          · rw [w, r2 p (by omega), up_at]
          · rw [r3 i (by omega) h2, up_ne (by decide)]
  obtain ⟨I', r1, r2, r3, r4⟩ := main 60 0 FU I rfl (FU_big (by decide))
  exact ⟨I', r1, fun i hi => r3 i (Nat.zero_le i) hi, r4⟩
theorem cp_134_97_129_123 (I : Nat → Nat → Int32) : ∃ I', f_134_97_129_123 I = some I' ∧ (∀ i, i < 60 → I' 123 i = I 129 i) ∧ Fr [123] I I' := by
  have main : ∀ (j p n : Nat) (I : Nat → Nat → Int32), p + j = 60 → j < n → ∃ I', fx (fun _ _ => none) bd_134_97_129_123_1 n (nI p) I = some I' ∧ (∀ i, i < p → I' 123 i = I 123 i) ∧ (∀ i, p ≤ i → i < 60 → I' 123 i = I 129 i) ∧ Fr [123] I I' := by
    intro j
    induction j with
    | zero =>
      intro p n I e hn
      obtain rfl : p = 60 := by omega
      cases n with
      | zero => omega
      | succ n =>
        refine ⟨I, ?_, fun i _ => rfl, fun i h1 h2 => by omega, Fr.refl _ _⟩
        rw [fx_s, bd_134_97_129_123_1]
        simp (disch := omega) only [ltN, Nat.lt_irrefl, if_false]
    | succ j ih =>
      intro p n I e hn
      cases n with
      | zero => omega
      | succ n =>
        have hp : p < 60 := by omega
        obtain ⟨I', r1, r2, r3, r4⟩ := ih (p + 1) n (up I 123 p (I 129 p)) (by omega) (by omega)
        refine ⟨I', ?_, fun i hi => ?_, fun i h1 h2 => ?_, ((Fr.refl _ _).up (by decide)).trans r4⟩
        · rw [fx_s, bd_134_97_129_123_1, ← r1]
          simp (disch := omega) only [lits, ltN, inN, clN, hp, if_true, addN]
        · rw [r2 i (by omega), up_nk (by omega)]
        · by_cases w : i = p
          · rw [w, r2 p (by omega), up_at]
          · rw [r3 i (by omega) h2, up_ne (by decide)]
  obtain ⟨I', r1, r2, r3, r4⟩ := main 60 0 FU I rfl (FU_big (by decide))
  exact ⟨I', r1, fun i hi => r3 i (Nat.zero_le i) hi, r4⟩
theorem cp_134_97_130_124 (I : Nat → Nat → Int32) : ∃ I', f_134_97_130_124 I = some I' ∧ (∀ i, i < 60 → I' 124 i = I 130 i) ∧ Fr [124] I I' := by
  have main : ∀ (j p n : Nat) (I : Nat → Nat → Int32), p + j = 60 → j < n → ∃ I', fx (fun _ _ => none) bd_134_97_130_124_1 n (nI p) I = some I' ∧ (∀ i, i < p → I' 124 i = I 124 i) ∧ (∀ i, p ≤ i → i < 60 → I' 124 i = I 130 i) ∧ Fr [124] I I' := by
    intro j
    induction j with
    | zero =>
      intro p n I e hn
      obtain rfl : p = 60 := by omega
      cases n with
      | zero => omega
      | succ n =>
        refine ⟨I, ?_, fun i _ => rfl, fun i h1 h2 => by omega, Fr.refl _ _⟩
        rw [fx_s, bd_134_97_130_124_1]
        simp (disch := omega) only [ltN, Nat.lt_irrefl, if_false]
    | succ j ih =>
      intro p n I e hn
      cases n with
      | zero => omega
      | succ n =>
        have hp : p < 60 := by omega
        obtain ⟨I', r1, r2, r3, r4⟩ := ih (p + 1) n (up I 124 p (I 130 p)) (by omega) (by omega)
        refine ⟨I', ?_, fun i hi => ?_, fun i h1 h2 => ?_, ((Fr.refl _ _).up (by decide)).trans r4⟩
        · rw [fx_s, bd_134_97_130_124_1, ← r1]
          simp (disch := omega) only [lits, ltN, inN, clN, hp, if_true, addN]
        · rw [r2 i (by omega), up_nk (by omega)]
        · by_cases w : i = p
          · rw [w, r2 p (by omega), up_at]
          · rw [r3 i (by omega) h2, up_ne (by decide)]
  obtain ⟨I', r1, r2, r3, r4⟩ := main 60 0 FU I rfl (FU_big (by decide))
  exact ⟨I', r1, fun i hi => r3 i (Nat.zero_le i) hi, r4⟩
theorem cp_134_97_131_125 (I : Nat → Nat → Int32) : ∃ I', f_134_97_131_125 I = some I' ∧ (∀ i, i < 1200 → I' 125 i = I 131 i) ∧ Fr [125] I I' := by
  have main : ∀ (j p n : Nat) (I : Nat → Nat → Int32), p + j = 1200 → j < n → ∃ I', fx (fun _ _ => none) bd_134_97_131_125_1 n (nI p) I = some I' ∧ (∀ i, i < p → I' 125 i = I 125 i) ∧ (∀ i, p ≤ i → i < 1200 → I' 125 i = I 131 i) ∧ Fr [125] I I' := by
    intro j
    induction j with
    | zero =>
      intro p n I e hn
      obtain rfl : p = 1200 := by omega
      cases n with
      | zero => omega
      | succ n =>
        refine ⟨I, ?_, fun i _ => rfl, fun i h1 h2 => by omega, Fr.refl _ _⟩
        rw [fx_s, bd_134_97_131_125_1]
        simp (disch := omega) only [ltN, Nat.lt_irrefl, if_false]
    | succ j ih =>
      intro p n I e hn
      cases n with
      | zero => omega
      | succ n =>
        have hp : p < 1200 := by omega
        obtain ⟨I', r1, r2, r3, r4⟩ := ih (p + 1) n (up I 125 p (I 131 p)) (by omega) (by omega)
        refine ⟨I', ?_, fun i hi => ?_, fun i h1 h2 => ?_, ((Fr.refl _ _).up (by decide)).trans r4⟩
        · rw [fx_s, bd_134_97_131_125_1, ← r1]
          simp (disch := omega) only [lits, ltN, inN, clN, hp, if_true, addN]
        · rw [r2 i (by omega), up_nk (by omega)]
        · by_cases w : i = p
          · rw [w, r2 p (by omega), up_at]
          · rw [r3 i (by omega) h2, up_ne (by decide)]
  obtain ⟨I', r1, r2, r3, r4⟩ := main 1200 0 FU I rfl (FU_big (by decide))
  exact ⟨I', r1, fun i hi => r3 i (Nat.zero_le i) hi, r4⟩
theorem cp_134_97_132_126 (I : Nat → Nat → Int32) : ∃ I', f_134_97_132_126 I = some I' ∧ (∀ i, i < 1200 → I' 126 i = I 132 i) ∧ Fr [126] I I' := by
  have main : ∀ (j p n : Nat) (I : Nat → Nat → Int32), p + j = 1200 → j < n → ∃ I', fx (fun _ _ => none) bd_134_97_132_126_1 n (nI p) I = some I' ∧ (∀ i, i < p → I' 126 i = I 126 i) ∧ (∀ i, p ≤ i → i < 1200 → I' 126 i = I 132 i) ∧ Fr [126] I I' := by
    intro j
    induction j with
    | zero =>
      intro p n I e hn
      obtain rfl : p = 1200 := by omega
      cases n with
      | zero => omega
      | succ n =>
        refine ⟨I, ?_, fun i _ => rfl, fun i h1 h2 => by omega, Fr.refl _ _⟩
        rw [fx_s, bd_134_97_132_126_1]
        simp (disch := omega) only [ltN, Nat.lt_irrefl, if_false]
    | succ j ih =>
      intro p n I e hn
      cases n with
      | zero => omega
      | succ n =>
        have hp : p < 1200 := by omega
        obtain ⟨I', r1, r2, r3, r4⟩ := ih (p + 1) n (up I 126 p (I 132 p)) (by omega) (by omega)
        refine ⟨I', ?_, fun i hi => ?_, fun i h1 h2 => ?_, ((Fr.refl _ _).up (by decide)).trans r4⟩
        · rw [fx_s, bd_134_97_132_126_1, ← r1]
          simp (disch := omega) only [lits, ltN, inN, clN, hp, if_true, addN]
        · rw [r2 i (by omega), up_nk (by omega)]
        · by_cases w : i = p
          · rw [w, r2 p (by omega), up_at]
          · rw [r3 i (by omega) h2, up_ne (by decide)]
  obtain ⟨I', r1, r2, r3, r4⟩ := main 1200 0 FU I rfl (FU_big (by decide))
  exact ⟨I', r1, fun i hi => r3 i (Nat.zero_le i) hi, r4⟩
