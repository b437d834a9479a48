/-! The class seeks rows of layings -/
section SK
variable (C H R : Nat) (K S : Nat → Nat)
def GdD (m s row : Nat) : Decidable (Gd C H R K S m s row) := Nat.decidableBallLT C (fun p _ => s.testBit (El C H R K S m row p) = true)
/-- how many rows are good -/
def NR (m s : Nat) : Nat → Nat
  | 0 => 0
  | r + 1 => NR m s r + @ite _ (Gd C H R K S m s r) (GdD C H R K S m s r) 1 0
/-- the codes of good rows -/
def CS (m s c : Nat) : Prop := ∃ row, row < H ^ m ∧ Gd C H R K S m s row ∧ c = cd6 H m row
end SK
section SL
variable {C H R : Nat} {K S : Nat → Nat}
theorem NR_zero {m s : Nat} : ∀ r, (∀ row, row < r → ¬ Gd C H R K S m s row) → NR C H R K S m s r = 0
  | 0, _ => rfl
  | r + 1, h => by
    rw [NR, NR_zero r (fun row hr => h row (by omega)), if_neg (h r (by omega))]
theorem NR_le {m s : Nat} : ∀ r, NR C H R K S m s r ≤ r
  | 0 => Nat.le_refl _
  | r + 1 => by
    have := NR_le (m := m) (s := s) r
    rw [NR]
    split <;> omega
theorem NR_row (hc : CH C H) {m s T : Nat} : ∀ i, i ≤ H → NR C H R K S (m + 1) s (H * T + i) = NR C H R K S (m + 1) s (H * T) + sr (fun l => @ite _ (Gd C H R K S m (cfB (fl1 C H R K S m l) s C) T) (GdD C H R K S m (cfB (fl1 C H R K S m l) s C) T) 1 0) i
  | 0, _ => rfl
  | i + 1, hi => by
    have c1 := hc.1
    have e1 : (H * T + i) % H = i := by rw [Nat.mul_add_mod, Nat.mod_eq_of_lt (by omega)]
    have e2 : (H * T + i) / H = T := by rw [Nat.mul_add_div (by omega), Nat.div_eq_of_lt (by omega), Nat.add_zero]
    have g := Gd_s (R := R) (K := K) (S := S) hc (m := m) (s := s) (row := H * T + i)
    rw [e1, e2] at g
    rw [← Nat.add_assoc, NR, NR_row hc i (by omega), sr, Nat.add_assoc]
    congr 2
    by_cases q : Gd C H R K S (m + 1) s (H * T + i)
    · rw [if_pos q, if_pos (g.mp q)]
    · rw [if_neg q, if_neg (fun z => q (g.mpr z))]
theorem NR_split (hc : CH C H) {m s : Nat} : ∀ T, NR C H R K S (m + 1) s (H * T) = sr (fun l => NR C H R K S m (cfB (fl1 C H R K S m l) s C) T) H
  | 0 => by
    have : ∀ i, sr (fun l => NR C H R K S m (cfB (fl1 C H R K S m l) s C) 0) i = 0 := by
      intro i
      induction i with
      | zero => rfl
      | succ i ih => rw [sr, ih, NR]
    rw [this, Nat.mul_zero, NR]
  | T + 1 => by
    rw [Nat.mul_succ, NR_row hc H (Nat.le_refl H), NR_split hc T, ← sr_add]
    rfl
theorem CS_s (hc : CH C H) {m s c : Nat} : CS C H R K S (m + 1) s c ↔ ∃ l c', l < H ∧ CS C H R K S m (cfB (fl1 C H R K S m l) s C) c' ∧ c = c' * 6 + l := by
  have c1 := hc.1
  constructor
  · rintro ⟨row, h1, h2, h3⟩
    rw [Nat.pow_succ] at h1
    exact ⟨row % H, cd6 H m (row / H), Nat.mod_lt _ (by omega), ⟨row / H, Nat.div_lt_of_lt_mul (by rw [Nat.mul_comm]; exact h1), (Gd_s hc).mp h2, rfl⟩, h3⟩
  · rintro ⟨l, c', hl, ⟨row, h1, h2, h3⟩, h4⟩
    have e1 : (row * H + l) % H = l := by rw [Nat.mul_comm, Nat.mul_add_mod, Nat.mod_eq_of_lt hl]
    have e2 : (row * H + l) / H = row := by rw [Nat.mul_comm, Nat.mul_add_div (by omega), Nat.div_eq_of_lt hl, Nat.add_zero]
    refine ⟨row * H + l, ?_, ?_, ?_⟩
    · rw [Nat.pow_succ]
      have : (row + 1) * H ≤ H ^ m * H := Nat.mul_le_mul_right H h1
      rw [Nat.succ_mul] at this
      omega
    · rw [Gd_s hc, e1, e2]
      exact h2
    · rw [cd6, e1, e2, h4, h3]
/-- what was found so far, and the least of it -/
def FT (T : Nat → Prop) (n f : Nat) : Prop := (n = 0 ∧ ∀ c, ¬ T c) ∨ (0 < n ∧ T f ∧ ∀ c, T c → f ≤ c)
theorem FT.ext {T T' : Nat → Prop} {n f : Nat} (h : FT T n f) (e : ∀ c, T' c ↔ T c) : FT T' n f := by
  rcases h with ⟨a, b⟩ | ⟨a, b, c⟩
  · exact Or.inl ⟨a, fun x hx => b x ((e x).mp hx)⟩
  · exact Or.inr ⟨a, (e f).mpr b, fun x hx => c x ((e x).mp hx)⟩
end SL
section SN
variable {C H N M w : Nat} {K S : Nat → Nat} {Y : Nat → Nat → Nat} {I : Nat → Nat → Int32}
theorem f123_s {a n : Nat} (ha : a ≤ 6) (hn : n ≤ 6) : f_123 (nI a) (nI n) = some (nI (a ^ n)) := by
  have main : ∀ (j i m : Nat), i + j = n → j < m → fx (fun _ _ _ _ => none) bd_123_1 m (nI a) (nI n) (nI (a ^ i)) (nI i) = some (nI (a ^ n)) := by
    intro j
    induction j with
    | zero =>
      intro i m e hm
      cases m with
      | zero => omega
      | succ m =>
        obtain rfl : i = n := by omega
        rw [fx_s, bd_123_1]
        simp (disch := omega) only [ltN, Nat.lt_irrefl, if_false]
    | succ j ih =>
      intro i m e hm
      cases m with
      | zero => omega
      | succ m =>
        have hi : i < n := by omega
        rw [← ih (i + 1) m (by omega) (by omega), Nat.pow_succ, fx_s, bd_123_1]
        simp (disch := omega) only [lits, ltN, hi, if_true, mulN, addN]
  exact main n 0 FU (by omega) (FU_big (by omega))
/-- own heaps, one laying for all -/
theorem own_all {k s l : Nat} (hC : CH C H) (hk : k < 3) (hl : l < H) (x2 : Int64) : ∀ (j a m : Nat) (I : Nat → Nat → Int32), a + j = H → j < m → I 79 5 = nI H → DK C H k s I → (∀ h, h < a → I 78 h = nI (bef (ct C H k C) (ord h h l H) h)) → ∃ I', fx (fun _ _ _ _ => none) bd_86_1 m (nI l) x2 (nI a) I = lb_86_3 x2 (0 : Int64) (0 : Int32) I' ∧ SS H (fun h => bef (ct C H k C) (ord h h l H) h) I' ∧ DK C H k s I' ∧ Fr [78] I I' := by
  intro j
  induction j with
  | zero =>
    intro a m I e hm h5 hd hs
    cases m with
    | zero => omega
    | succ m =>
      have c2 := hC.2.1
      obtain rfl : a = H := by omega
      refine ⟨I, ?_, hs, hd, Fr.refl _ _⟩
      rw [fx_s, bd_86_1, h5, if_neg (Int32.lt_irrefl (a := nI a))]
  | succ j ih =>
    intro a m I e hm h5 hd hs
    cases m with
    | zero => omega
    | succ m =>
      have c2 := hC.2.1
      have ha : a < H := by omega
      have fr1 : Fr [78] I (up I 78 a (nI (bef (ct C H k C) (ord a a l H) a))) := (Fr.refl _ _).up (by decide)
      obtain ⟨I', r1, r2, r3, r4⟩ := ih (a + 1) m _ (by omega) (by omega) (by rw [fr1 79 (by decide)]; exact h5) (hd.fr fr1 (by decide) (by decide) (by decide) (by decide)) (fun h hh => by
        rw [up_eq]
        split
        · next z => rw [z]
        · exact hs h (by omega))
      refine ⟨I', ?_, r2, r3, fr1.trans r4⟩
      rw [← r1, fx_s, bd_86_1, h5, if_pos ((ltN (by omega) (by omega)).mpr ha), f7_s hC hk ha hl hd, Option.bind_some, nI_1]
theorem f86_s (h : SetP C H N M w K S Y I) {d l s : Nat} (hd : d < 2147483648) (hl : l < H) (hs : s < 2 ^ 60) : ∃ I', f_86 (nI d) (nI l) (lN s) I = some (lN (cfB (fl1 C H (max N 1) K S d l) s C), I') ∧ Keep I I' ∧ I' 84 = I 84 := by
  have hC := h.ch
  obtain ⟨c1, c2, c3, c4⟩ := h.ch
  obtain ⟨e1, hl'⟩ := h.f51 hd
  obtain ⟨I1, r1, r2, r3⟩ := f3_s (k := K (d % max N 1)) (s := S (d % max N 1)) h.dt
  have k1 := Keep.f3 r3 h.dt r2
  obtain ⟨I2, t1, t2, t3, t4⟩ := own_all hC (h.k3 hl') hl (lN s) H 0 FU I1 (by omega) (FU_big (by omega)) (by rw [r3 79 (by decide)]; exact h.i5) r2 (fun x hx => absurd hx (Nat.not_lt_zero _))
  have k2 := k1.trans (Keep.fr t4 (by decide))
  have h2 := h.keep k2
  have main : ∀ (j p m : Nat), p + j = C → j < m → fx (fun _ _ _ _ => none) bd_86_3 m (lN s) (lN (cfB (fl1 C H (max N 1) K S d l) s p)) (nI p) I2 = some (lN (cfB (fl1 C H (max N 1) K S d l) s C), I2) := by
    intro j
    induction j with
    | zero =>
      intro p m e hm
      cases m with
      | zero => omega
      | succ m =>
        obtain rfl : p = C := by omega
        rw [fx_s, bd_86_3, h2.i4, if_neg (Int32.lt_irrefl (a := nI p))]
    | succ j ih =>
      intro p m e hm
      cases m with
      | zero => omega
      | succ m =>
        have hp' : p < C := by omega
        have g : f_10 (nI p) I2 = some (nI (fl1 C H (max N 1) K S d l p)) := f10_s (g := fun h => bef (ct C H (K (d % max N 1)) C) (ord h h l H) h) hC (h.k3 hl') (h.s2 hl') t3 t2 hp'
        have gl := fl1_lt (R := max N 1) (K := K) (S := S) (d := d) (l := l) hC hp'
        have bit := wb_bit (n := s) (k := fl1 C H (max N 1) K S d l p) (by omega) (by omega)
        have lb := cfB_lt (fl1 C H (max N 1) K S d l) s p
        have l60 : 2 ^ p ≤ 2 ^ 60 := Nat.pow_le_pow_right (by decide) (by omega)
        have sh := wb_shl (s / 2 ^ fl1 C H (max N 1) K S d l p % 2) (k := p) (by omega)
        have p2 : 2 ^ p < 2 ^ 60 := Nat.pow_lt_pow_right (by decide) (by omega)
        rw [← ih (p + 1) m (by omega) (by omega), fx_s, bd_86_3, h2.i4, if_pos ((ltN (by omega) (by omega)).mpr hp'), g, Option.bind_some, bit, sh, nI_1, cfB]
        by_cases q : s.testBit (fl1 C H (max N 1) K S d l p) = true
        · rw [if_pos q]
          have nb : s / 2 ^ fl1 C H (max N 1) K S d l p % 2 = 1 := by
            rw [Nat.testBit_eq_decide_div_mod_eq] at q
            exact of_decide_eq_true q
          rw [nb, Nat.one_mul, wb_or (by omega) (by omega)]
        · rw [if_neg q]
          have nb : s / 2 ^ fl1 C H (max N 1) K S d l p % 2 = 0 := by
            rw [Nat.testBit_eq_decide_div_mod_eq, decide_eq_true_iff] at q
            omega
          rw [nb, Nat.zero_mul, wb_or (by omega) (by omega), Nat.or_zero]
  refine ⟨I2, ?_, k2, by rw [t4 84 (by decide), r3 84 (by decide)]⟩
  unfold f_86
  rw [e1, Option.bind_some, h.f52 hd, Option.bind_some, r1, Option.bind_some]
  have b1 : lb_86_1 (nI l) (lN s) (0 : Int32) I1 = _ := t1
  rw [b1]
  exact main C 0 FU (by omega) (FU_big (by omega))
/-- a leaf: a row is found -/
theorem leaf_s {n0 f0 r : Nat} {T : Nat → Prop} (h3 : I 84 3 = nI n0) (h4 : I 84 4 = nI f0) (hT : FT T n0 f0) (hn : n0 < 1000000) (hf : f0 < 1000000) (hr : r < 1000000) (c999 : Int32 → Int64 → Int32 → Int32 → (Nat → Nat → Int32) → Option (Nat → Nat → Int32)) (x2 : Int64) (x5 : Int32) : ∃ I' f1, fb_85 c999 (-1) x2 (nI r) x5 I = some I' ∧ Keep I I' ∧ I' 84 2 = I 84 2 ∧ I' 84 3 = nI (n0 + 1) ∧ I' 84 4 = nI f1 ∧ f1 < 1000000 ∧ FT (fun c => T c ∨ c = r) (n0 + 1) f1 := by
  have kk : ∀ v u, Keep I (up (up I 84 4 v) 84 3 u) := fun v u => by
    refine ⟨((Fr.refl _ _).up (by decide)).up (by decide), ?_, ?_, ?_, ?_, fun k _ _ => ?_⟩
    · rw [up_ne (by decide), up_ne (by decide)]
    · rw [up_ne (by decide), up_ne (by decide)]
    · rw [up_nk (by decide), up_nk (by decide)]
    · rw [up_nk (by decide), up_nk (by decide)]
    · rw [up_ne (by decide), up_ne (by decide)]
  have gen : ∀ v, lb_85_2 (nI v) I = some (up (up I 84 4 (nI v)) 84 3 (nI (n0 + 1))) := fun v => by
    unfold lb_85_2
    simp (disch := omega) only [up_nk, h3, lits, addN]
  have fin : ∀ v, v < 1000000 → FT (fun c => T c ∨ c = r) (n0 + 1) v → fb_85 c999 (-1) x2 (nI r) x5 I = lb_85_2 (nI v) I → ∃ I' f1, fb_85 c999 (-1) x2 (nI r) x5 I = some I' ∧ Keep I I' ∧ I' 84 2 = I 84 2 ∧ I' 84 3 = nI (n0 + 1) ∧ I' 84 4 = nI f1 ∧ f1 < 1000000 ∧ FT (fun c => T c ∨ c = r) (n0 + 1) f1 := fun v hv hF e => by
    refine ⟨_, v, by rw [e, gen v], kk _ _, ?_, up_at, ?_, hv, hF⟩
    · rw [up_nk (by decide), up_nk (by decide)]
    · rw [up_nk (by decide), up_at]
  by_cases q : n0 = 0
  · refine fin r hr ?_ ?_
    · rcases hT with ⟨_, b⟩ | ⟨a, _⟩
      · exact Or.inr ⟨by omega, Or.inr rfl, fun c hc => by
          rcases hc with hc | hc
          · exact absurd hc (b c)
          · omega⟩
      · omega
    · unfold fb_85
      rw [if_pos (by decide), h3, if_pos (by rw [q]; rfl)]
  · have hT' : T f0 ∧ ∀ c, T c → f0 ≤ c := by
      rcases hT with ⟨a, _⟩ | ⟨_, b, c⟩
      · exact absurd a q
      · exact ⟨b, c⟩
    have q' : ¬ nI n0 = 0 := fun z => q ((eqN (by omega) (by decide)).mp z)
    refine fin (if r < f0 then r else f0) (by split <;> omega) ?_ ?_
    · refine Or.inr ⟨by omega, ?_, fun c hc => ?_⟩
      · split
        · exact Or.inr rfl
        · exact Or.inl hT'.1
      · rcases hc with hc | hc
        · have := hT'.2 c hc
          split <;> omega
        · split <;> omega
    · unfold fb_85 f_213 lb_213_2
      rw [if_pos (by decide), h3, if_neg q', h4]
      simp (disch := omega) only [ltN]
      split <;> rfl
end SN
