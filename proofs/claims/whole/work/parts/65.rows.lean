/-! Rows of layings, in numbers -/
/-- places from which one comes to a wanted one, as bits -/
def cfB (g : Nat → Nat) (s : Nat) : Nat → Nat
  | 0 => 0
  | p + 1 => if s.testBit (g p) = true then cfB g s p ||| 2 ^ p else cfB g s p
theorem cfB_lt (g : Nat → Nat) (s : Nat) : ∀ n, cfB g s n < 2 ^ n
  | 0 => by rw [cfB]; decide
  | n + 1 => by
    have := cfB_lt g s n
    have h2 : 2 ^ n < 2 ^ (n + 1) := Nat.pow_lt_pow_right (by decide) (by omega)
    rw [cfB]
    split
    · exact Nat.or_lt_two_pow (by omega) h2
    · omega
theorem cfB_bit (g : Nat → Nat) (s x : Nat) : ∀ n, (cfB g s n).testBit x = true ↔ x < n ∧ s.testBit (g x) = true
  | 0 => by
    rw [cfB, Nat.zero_testBit]
    constructor
    · intro h; cases h
    · intro h; omega
  | n + 1 => by
    rw [cfB]
    split
    · next q =>
      rw [bit_or, Bool.or_eq_true, cfB_bit g s x n, decide_eq_true_iff]
      constructor
      · rintro (⟨h1, h2⟩ | rfl)
        · exact ⟨by omega, h2⟩
        · exact ⟨by omega, q⟩
      · rintro ⟨h1, h2⟩
        by_cases w : n = x
        · exact Or.inr w
        · exact Or.inl ⟨by omega, h2⟩
    · next q =>
      rw [cfB_bit g s x n]
      constructor
      · rintro ⟨h1, h2⟩; exact ⟨by omega, h2⟩
      · rintro ⟨h1, h2⟩
        by_cases w : x = n
        · rw [w] at h2
          exact absurd h2 q
        · exact ⟨by omega, h2⟩
theorem pc_sub : ∀ (K t s : Nat), (∀ x, t.testBit x = true → s.testBit x = true) → pc K t ≤ pc K s
  | 0, _, _, _ => Nat.le_refl _
  | K + 1, t, s, h => by
    have ih := pc_sub K (t / 2) (s / 2) (fun x hx => by
      have := h (x + 1)
      rw [Nat.testBit_succ, Nat.testBit_succ] at this
      exact this hx)
    have h0 := h 0
    rw [Nat.testBit_zero, Nat.testBit_zero, decide_eq_true_iff, decide_eq_true_iff] at h0
    rw [pc, pc]
    omega
/-- at most one place of each heap comes to a place -/
theorem pc_cf {C H s : Nat} {hh g : Nat → Nat} (hC : C ≤ 60) (hl : ∀ p, p < C → hh p < H) (gl : ∀ p, p < C → g p < C) (inj : ∀ p q, p < C → q < C → hh p = hh q → g p = g q → p = q) : pc 64 (cfB g s C) ≤ H * pc 64 s := by
  -- the bits that places of a heap come to
  have T : ∀ n, n ≤ C → ∃ t : Nat → Nat, (∀ h x, (t h).testBit x = true ↔ ∃ p, p < n ∧ hh p = h ∧ g p = x ∧ s.testBit x = true) ∧ pc 64 (cfB g s n) = sr (fun h => pc 64 (t h)) H := by
    intro n
    induction n with
    | zero =>
      intro _
      refine ⟨fun _ => 0, fun h x => ?_, ?_⟩
      · rw [Nat.zero_testBit]
        constructor
        · intro z; cases z
        · rintro ⟨p, hp, _⟩; omega
      · rw [cfB, pc_zero]
        have : ∀ i, sr (fun _ => pc 64 0) i = 0 := by
          intro i
          induction i with
          | zero => rfl
          | succ i ih => rw [sr, ih, pc_zero]
        rw [this]
    | succ n ih =>
      intro hn
      obtain ⟨t, t1, t2⟩ := ih (by omega)
      rw [cfB]
      by_cases q : s.testBit (g n) = true
      · rw [if_pos q, pc_or (by omega) (Nat.testBit_lt_two_pow (cfB_lt g s n)), t2]
        refine ⟨fun h => if hh n = h then t h ||| 2 ^ g n else t h, fun h x => ?_, ?_⟩
        · dsimp only
          split
          · next w =>
            rw [bit_or, Bool.or_eq_true, t1, decide_eq_true_iff]
            constructor
            · rintro (⟨p, a, b, c, d⟩ | e)
              · exact ⟨p, by omega, b, c, d⟩
              · exact ⟨n, by omega, w, e, by rw [← e]; exact q⟩
            · rintro ⟨p, a, b, c, d⟩
              by_cases z : p = n
              · rw [z] at c
                exact Or.inr c
              · exact Or.inl ⟨p, by omega, b, c, d⟩
          · next w =>
            rw [t1]
            constructor
            · rintro ⟨p, a, b, c, d⟩; exact ⟨p, by omega, b, c, d⟩
            · rintro ⟨p, a, b, c, d⟩
              by_cases z : p = n
              · rw [z] at b
                exact absurd b w
              · exact ⟨p, by omega, b, c, d⟩
        · have nb : (t (hh n)).testBit (g n) = false := by
            cases z : (t (hh n)).testBit (g n) with
            | false => rfl
            | true =>
              obtain ⟨p, a, b, c, d⟩ := (t1 _ _).mp z
              have := inj p n (by omega) (by omega) b c
              omega
          have e : (fun h => pc 64 (if hh n = h then t h ||| 2 ^ g n else t h)) = fun h => pc 64 (t h) + (fun h => if hh n = h then 1 else 0) h := by
            funext h
            dsimp only
            split
            · next w =>
              rw [← w, pc_or (by have := gl n (by omega); omega) nb]
            · rw [Nat.add_zero]
          rw [e, sr_add, sr_one, if_pos (hl n (by omega))]
      · rw [if_neg q]
        refine ⟨t, fun h x => ?_, t2⟩
        rw [t1]
        constructor
        · rintro ⟨p, a, b, c, d⟩; exact ⟨p, by omega, b, c, d⟩
        · rintro ⟨p, a, b, c, d⟩
          by_cases z : p = n
          · rw [z] at c
            rw [c] at q
            exact absurd d q
          · exact ⟨p, by omega, b, c, d⟩
  obtain ⟨t, t1, t2⟩ := T C (Nat.le_refl C)
  rw [t2]
  have : ∀ i, sr (fun h => pc 64 (t h)) i ≤ i * pc 64 s := by
    intro i
    induction i with
    | zero => exact Nat.zero_le _
    | succ i ih =>
      have := pc_sub 64 (t i) s (fun x hx => by
        obtain ⟨p, a, b, c, d⟩ := (t1 _ _).mp hx
        exact d)
      rw [sr, Nat.succ_mul]
      omega
  exact this H
section RW
variable (C H R : Nat) (K S : Nat → Nat)
/-- a followed place by one laying for all -/
def fl1 (d l : Nat) (p : Nat) : Nat := fw C H (K (d % R)) (S (d % R)) (fun _ => l) p
/-- where a place ends by a row of layings, the last one lowest -/
def El : Nat → Nat → Nat → Nat
  | 0, _, p => p
  | m + 1, row, p => fl1 C H R K S m (row % H) (El m (row / H) p)
/-- all places end where it is wanted -/
def Gd (m s row : Nat) : Prop := ∀ p, p < C → s.testBit (El C H R K S m row p) = true
end RW
section RX
variable {C H R : Nat} {K S : Nat → Nat}
theorem fl1_lt (hc : CH C H) {d l p : Nat} (hp : p < C) : fl1 C H R K S d l p < C := fw_lt hc.1 hc.2.2.1 hp
theorem El_lt (hc : CH C H) {p : Nat} (hp : p < C) : ∀ m row, El C H R K S m row p < C
  | 0, _ => hp
  | m + 1, row => fl1_lt hc (El_lt hc hp m _)
theorem fl1_inj (hc : CH C H) {d l p q : Nat} (hp' : p < C) (hq : q < C) (e : hp C H (K (d % R)) p = hp C H (K (d % R)) q) (h : fl1 C H R K S d l p = fl1 C H R K S d l q) : p = q := by
  unfold fl1 fw np at h
  rw [e] at h
  exact off_inj (s := S (d % R)) hp' hq e (by omega)
theorem Gd_s (hc : CH C H) {m s row : Nat} : Gd C H R K S (m + 1) s row ↔ Gd C H R K S m (cfB (fl1 C H R K S m (row % H)) s C) (row / H) := by
  unfold Gd
  constructor
  · intro h p hp
    rw [cfB_bit]
    exact ⟨El_lt hc hp m _, h p hp⟩
  · intro h p hp
    have := h p hp
    rw [cfB_bit] at this
    exact this.2
/-- too few to have all behind them -/
theorem Gd_pc (hc : CH C H) : ∀ (m s row : Nat), Gd C H R K S m s row → C ≤ pc 64 s * H ^ m
  | 0, s, row, h => by
    rw [Nat.pow_zero, Nat.mul_one]
    have e : ∀ n, n ≤ C → pc 64 (cfB (fun p => p) s n) = n := by
      intro n
      induction n with
      | zero => intro _; exact pc_zero 64
      | succ n ih =>
        intro hn
        have c4 := hc.2.2.2
        have : s.testBit n = true := h n (by omega)
        rw [cfB, if_pos this, pc_or (by omega) (Nat.testBit_lt_two_pow (cfB_lt _ s n)), ih (by omega)]
    have := pc_sub 64 (cfB (fun p => p) s C) s (fun x hx => ((cfB_bit _ s x C).mp hx).2)
    rw [e C (Nat.le_refl C)] at this
    exact this
  | m + 1, s, row, h => by
    have ih := Gd_pc hc m _ _ ((Gd_s hc).mp h)
    have c1 := hc.1
    have c3 := hc.2.2.1
    have b := pc_cf (C := C) (H := H) (s := s) (hh := hp C H (K (m % R))) (g := fl1 C H R K S m (row % H)) hc.2.2.2 (fun p hp => hp_lt c1 c3 hp) (fun p hp => fl1_lt hc hp) (fun p q hp hq e e2 => fl1_inj hc hp hq e e2)
    rw [Nat.pow_succ, Nat.mul_comm (H ^ m) H, ← Nat.mul_assoc, Nat.mul_comm (pc 64 s) H]
    exact Nat.le_trans ih (Nat.mul_le_mul_right _ b)
end RX
/-- a row's code to the base 6 -/
def cd6 (H : Nat) : Nat → Nat → Nat
  | 0, _ => 0
  | m + 1, row => cd6 H m (row / H) * 6 + row % H
theorem cd6_dig {H : Nat} (hH : H ≤ 6) (h0 : 0 < H) : ∀ (m j row : Nat), j < m → cd6 H m row / 6 ^ j % 6 = row / H ^ j % H
  | 0, _, _, h => absurd h (Nat.not_lt_zero _)
  | m + 1, 0, row, _ => by
    have := Nat.mod_lt row h0
    rw [cd6, Nat.pow_zero, Nat.pow_zero, Nat.div_one, Nat.div_one]
    omega
  | m + 1, j + 1, row, h => by
    have := Nat.mod_lt row h0
    rw [cd6, Nat.pow_succ, Nat.mul_comm (6 ^ j) 6, ← Nat.div_div_eq_div_mul, show (cd6 H m (row / H) * 6 + row % H) / 6 = cd6 H m (row / H) by omega, cd6_dig hH h0 m j (row / H) (by omega), Nat.pow_succ, Nat.mul_comm (H ^ j) H, ← Nat.div_div_eq_div_mul]
theorem cd6_lt {H : Nat} (hH : H ≤ 6) (h0 : 0 < H) : ∀ (m row : Nat), cd6 H m row < 6 ^ m
  | 0, _ => by rw [cd6]; decide
  | m + 1, row => by
    have := cd6_lt hH h0 m (row / H)
    have := Nat.mod_lt row h0
    rw [cd6, Nat.pow_succ]
    omega
theorem cd6_mono {H : Nat} (hH : H ≤ 6) (h0 : 0 < H) : ∀ (m a b : Nat), a < H ^ m → b < H ^ m → a ≤ b → cd6 H m a ≤ cd6 H m b
  | 0, _, _, _, _, _ => by rw [cd6, cd6]; omega
  | m + 1, a, b, ha, hb, h => by
    rw [Nat.pow_succ] at ha hb
    have h1 : a / H ≤ b / H := Nat.div_le_div_right h
    have ia : a / H < H ^ m := Nat.div_lt_of_lt_mul (by rw [Nat.mul_comm]; exact ha)
    have ib : b / H < H ^ m := Nat.div_lt_of_lt_mul (by rw [Nat.mul_comm]; exact hb)
    have ih := cd6_mono hH h0 m _ _ ia ib h1
    have ma := Nat.mod_lt a h0
    have mb := Nat.mod_lt b h0
    rw [cd6, cd6]
    by_cases w : a / H = b / H
    · have da := Nat.div_add_mod a H
      have db := Nat.div_add_mod b H
      rw [w] at da
      rw [w]
      omega
    · have ih2 : cd6 H m (a / H) < cd6 H m (b / H) := by
        have : cd6 H m (a / H) ≠ cd6 H m (b / H) := by
          intro e
          exact w (cd6_inj hH h0 m _ _ ia ib e)
        omega
      omega
where
  cd6_inj {H : Nat} (hH : H ≤ 6) (h0 : 0 < H) : ∀ (m a b : Nat), a < H ^ m → b < H ^ m → cd6 H m a = cd6 H m b → a = b
  | 0, a, b, ha, hb, _ => by
    rw [Nat.pow_zero] at ha hb
    omega
  | m + 1, a, b, ha, hb, h => by
    rw [Nat.pow_succ] at ha hb
    have ia : a / H < H ^ m := Nat.div_lt_of_lt_mul (by rw [Nat.mul_comm]; exact ha)
    have ib : b / H < H ^ m := Nat.div_lt_of_lt_mul (by rw [Nat.mul_comm]; exact hb)
    have ma := Nat.mod_lt a h0
    have mb := Nat.mod_lt b h0
    rw [cd6, cd6] at h
    have e := cd6_inj hH h0 m _ _ ia ib (by omega)
    have da := Nat.div_add_mod a H
    have db := Nat.div_add_mod b H
    rw [e] at da
    omega
