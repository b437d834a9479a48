/-! end, sure, soonest -/
section EN
variable {C H N M w : Nat} {K S : Nat → Nat} {Y : Nat → Nat → Nat} {I : Nat → Nat → Int32}
theorem f182_in : ∀ (j p n : Nat) (I : Nat → Nat → Int32), p + j = 60 → j < n → (∀ q, q < p → I 116 q = nI q) → ∃ I', fx (fun _ _ => none) bd_182_1 n (nI p) I = some I' ∧ (∀ q, q < 60 → I' 116 q = nI q) ∧ Fr [116] I I'
  | _, _, 0, _, _, h, _ => absurd h (Nat.not_lt_zero _)
  | 0, p, n + 1, I, e, _, h => by
    obtain rfl : p = 60 := by omega
    refine ⟨I, ?_, h, Fr.refl _ _⟩
    rw [fx_s, bd_182_1]
    simp (disch := omega) only [lits, ltN, Nat.lt_irrefl, if_false]
  | j + 1, p, n + 1, I, e, hn, h => by
    have hp : p < 60 := by omega
    obtain ⟨I', r1, r2, r3⟩ := f182_in j (p + 1) n (up I 116 p (nI p)) (by omega) (by omega) (fun q hq => by
      rw [up_eq]
      split
      · next w => rw [w]
      · exact h q (by omega))
    refine ⟨I', ?_, r2, ((Fr.refl _ _).up (by decide)).trans r3⟩
    rw [fx_s, bd_182_1, ← r1]
    simp (disch := omega) only [lits, ltN, inN, clN, addN, hp, if_true]
theorem f182_s (I : Nat → Nat → Int32) : ∃ I', f_182 I = some I' ∧ (∀ q, q < 60 → I' 116 q = nI q) ∧ Fr [116] I I' := f182_in 60 0 FU I rfl (FU_big (by decide)) (fun q hq => absurd hq (Nat.not_lt_zero _))
theorem f115_in : ∀ (j p n : Nat) (I : Nat → Nat → Int32), p + j = 60 → j < n → (∀ q, q < p → I 59 q = nI q) → ∃ I', fx (fun _ _ => none) bd_115_1 n (nI p) I = some I' ∧ (∀ q, q < 60 → I' 59 q = nI q) ∧ Fr [59] I I'
  | _, _, 0, _, _, h, _ => absurd h (Nat.not_lt_zero _)
  | 0, p, n + 1, I, e, _, h => by
    obtain rfl : p = 60 := by omega
    refine ⟨I, ?_, h, Fr.refl _ _⟩
    rw [fx_s, bd_115_1]
    simp (disch := omega) only [lits, ltN, Nat.lt_irrefl, if_false]
  | j + 1, p, n + 1, I, e, hn, h => by
    have hp : p < 60 := by omega
    obtain ⟨I', r1, r2, r3⟩ := f115_in j (p + 1) n (up I 59 p (nI p)) (by omega) (by omega) (fun q hq => by
      rw [up_eq]
      split
      · next w => rw [w]
      · exact h q (by omega))
    refine ⟨I', ?_, r2, ((Fr.refl _ _).up (by decide)).trans r3⟩
    rw [fx_s, bd_115_1, ← r1]
    simp (disch := omega) only [lits, ltN, inN, clN, addN, hp, if_true]
theorem f115_s (I : Nat → Nat → Int32) : ∃ I', f_115 I = some I' ∧ (∀ q, q < 60 → I' 59 q = nI q) ∧ Fr [59] I I' := f115_in 60 0 FU I rfl (FU_big (by decide)) (fun q hq => absurd hq (Nat.not_lt_zero _))
/-- the class moves all places -/
theorem f116_in {e : Nat → Nat} {i : Nat} (hi : i < 2147483648) : ∀ (j p n : Nat) (I : Nat → Nat → Int32), SetP C H N M w K S Y I → p + j = C → j < n → (∀ q, q < C → e q < C ∧ I 59 q = nI (if q < p then fw C H (K (i % max N 1)) (S (i % max N 1)) (Y (i % max N 1)) (e q) else e q)) → ∃ I', fx (fun _ _ _ => none) bd_116_1 n (nI i) (nI p) I = some I' ∧ (∀ q, q < C → I' 59 q = nI (fw C H (K (i % max N 1)) (S (i % max N 1)) (Y (i % max N 1)) (e q))) ∧ Fr [59] I I'
  | _, _, 0, _, _, _, h, _ => absurd h (Nat.not_lt_zero _)
  | 0, p, n + 1, I, h, e, _, he => by
    have c4 := h.ch.2.2.2
    obtain rfl : p = C := by omega
    refine ⟨I, ?_, fun q hq => by rw [(he q hq).2, if_pos hq], Fr.refl _ _⟩
    rw [fx_s, bd_116_1]
    simp (disch := omega) only [h.i4, ltN, Nat.lt_irrefl, if_false]
  | j + 1, p, n + 1, I, h, e1, hn, he => by
    have c4 := h.ch.2.2.2
    have hp' : p < C := by omega
    obtain ⟨l1, g1⟩ := he p hp'
    rw [if_neg (Nat.lt_irrefl p)] at g1
    have fr1 : Fr [59] I (up I 59 p (nI (fw C H (K (i % max N 1)) (S (i % max N 1)) (Y (i % max N 1)) (e p)))) := (Fr.refl _ _).up (by decide)
    obtain ⟨I', r1, r2, r3⟩ := f116_in hi j (p + 1) n _ (h.keep (Keep.fr fr1 (by decide))) (by omega) (by omega) (fun q hq => ⟨(he q hq).1, by
      rw [up_eq]
      split
      · next w => rw [w, if_pos (by omega)]
      · rw [(he q hq).2]
        by_cases w : q < p
        · rw [if_pos w, if_pos (by omega)]
        · rw [if_neg w, if_neg (by omega)]⟩)
    refine ⟨I', ?_, r2, fr1.trans r3⟩
    rw [fx_s, bd_116_1, ← r1, h.i4, atN (by omega) (by omega), g1, h.f54 hi l1]
    simp (disch := omega) only [lits, ltN, puN, addN, hp', if_true, Option.bind_some]
theorem SetP.f116 (h : SetP C H N M w K S Y I) {e : Nat → Nat} {i : Nat} (hi : i < 2147483648) (he : ∀ q, q < C → e q < C ∧ I 59 q = nI (e q)) : ∃ I', f_116 (nI i) I = some I' ∧ (∀ q, q < C → I' 59 q = nI (fw C H (K (i % max N 1)) (S (i % max N 1)) (Y (i % max N 1)) (e q))) ∧ Fr [59] I I' := by
  have c4 := h.ch.2.2.2
  exact f116_in hi C 0 FU I h (by omega) (FU_big (by omega)) (fun q hq => ⟨(he q hq).1, by rw [if_neg (by omega)]; exact (he q hq).2⟩)
/-- do all end alike -/
theorem f117_s {e : Nat → Nat} (h4 : I 79 4 = nI C) (hC : C ≤ 60) (h0 : 0 < C) (he : ∀ q, q < C → e q < C ∧ I 59 q = nI (e q)) : f_117 I = some (if ∀ q, q < C → e q = e 0 then nI (e 0) else -1) := by
  have g0 := (he 0 h0).2
  have l0 := (he 0 h0).1
  have main : ∀ (j p n : Nat), p + j = C → j < n → (∀ q, q < p → e q = e 0) → fx (fun _ _ _ => none) bd_117_1 n (nI (e 0)) (nI p) I = some (if ∀ q, q < C → e q = e 0 then nI (e 0) else -1) := by
    intro j
    induction j with
    | zero =>
      intro p n e1 hn hq
      obtain rfl : p = C := by omega
      cases n with
      | zero => omega
      | succ n =>
        rw [fx_s, bd_117_1, if_pos hq]
        simp (disch := omega) only [h4, ltN, Nat.lt_irrefl, if_false]
    | succ j ih =>
      intro p n e1 hn hq
      cases n with
      | zero => omega
      | succ n =>
        have hp' : p < C := by omega
        obtain ⟨l1, g1⟩ := he p hp'
        rw [fx_s, bd_117_1]
        by_cases q : e p = e 0
        · rw [← ih (p + 1) n (by omega) (by omega) (fun z hz => by
            by_cases w : z = p
            · rw [w]; exact q
            · exact hq z (by omega))]
          simp (disch := omega) only [h4, lits, ltN, hp', if_true, atN, g1, eqN, q, addN]
        · have nA : ¬ (∀ z, z < C → e z = e 0) := fun w => q (w p hp')
          rw [if_neg nA]
          simp (disch := omega) only [h4, ltN, hp', if_true, atN, g1, eqN, q, if_false]
  unfold f_117
  simp (disch := omega) only [lits, atN, g0]
  exact main (C - 1) 1 FU (by omega) (FU_big (by omega)) (fun q hq => by rw [show q = 0 by omega])
theorem f184_s {e : Nat → Nat} (h4 : I 97 1 = nI C) (hC : C ≤ 60) (h0 : 0 < C) (he : ∀ q, q < C → e q < C ∧ I 116 q = nI (e q)) : f_184 I = some (if ∀ q, q < C → e q = e 0 then nI 1 else nI 0) := by
  have g0 := (he 0 h0).2
  have l0 := (he 0 h0).1
  have main : ∀ (j p n : Nat), p + j = C → j < n → (∀ q, q < p → e q = e 0) → fx (fun _ _ => none) bd_184_1 n (nI p) I = some (if ∀ q, q < C → e q = e 0 then nI 1 else nI 0) := by
    intro j
    induction j with
    | zero =>
      intro p n e1 hn hq
      obtain rfl : p = C := by omega
      cases n with
      | zero => omega
      | succ n =>
        rw [fx_s, bd_184_1, if_pos hq]
        simp (disch := omega) only [h4, lits, ltN, Nat.lt_irrefl, if_false]
    | succ j ih =>
      intro p n e1 hn hq
      cases n with
      | zero => omega
      | succ n =>
        have hp' : p < C := by omega
        have p6 : p < 60 := by omega
        have z6 : 0 < 60 := by omega
        obtain ⟨l1, g1⟩ := he p hp'
        rw [fx_s, bd_184_1]
        by_cases q : e p = e 0
        · rw [← ih (p + 1) n (by omega) (by omega) (fun z hz => by
            by_cases w : z = p
            · rw [w]; exact q
            · exact hq z (by omega))]
          simp (disch := omega) only [h4, lits, ltN, hp', inN, clN, p6, z6, if_true, g1, g0, eqN, q, addN]
        · have nA : ¬ (∀ z, z < C → e z = e 0) := fun w => q (w p hp')
          rw [if_neg nA]
          simp (disch := omega) only [h4, lits, ltN, hp', inN, clN, p6, z6, if_true, g1, g0, eqN, q, if_false]
  exact main (C - 1) 1 FU (by omega) (FU_big (by omega)) (fun q hq => by rw [show q = 0 by omega])
/-- the class's places by n deals -/
theorem mv_in {n : Nat} (hn : n ≤ 60) : ∀ (j i m : Nat) (I : Nat → Nat → Int32), SetP C H N M w K S Y I → i + j = n → j < m → (∀ q, q < C → I 59 q = nI (en C H (max N 1) K S Y i q)) → ∃ I', fx (fun _ _ _ => none) bd_95_2 m (nI n) (nI i) I = some (.inl (if ∀ q, q < C → en C H (max N 1) K S Y n q = en C H (max N 1) K S Y n 0 then nI (en C H (max N 1) K S Y n 0) else -1), I') ∧ Keep I I'
  | _, _, 0, _, _, _, h, _ => absurd h (Nat.not_lt_zero _)
  | 0, i, m + 1, I, h, e, _, he => by
    obtain ⟨c1, c2, c3, c4⟩ := h.ch
    obtain rfl : i = n := by omega
    refine ⟨I, ?_, Keep.refl I⟩
    rw [fx_s, bd_95_2, f117_s h.i4 c4 (by omega) (fun q hq => ⟨h.en_lt hq i, he q hq⟩)]
    simp (disch := omega) only [ltN, Nat.lt_irrefl, if_false, Option.bind_some]
  | j + 1, i, m + 1, I, h, e, hm, he => by
    have hi : i < n := by omega
    obtain ⟨I1, r1, r2, r3⟩ := h.f116 (i := i) (by omega) (fun q hq => ⟨h.en_lt hq i, he q hq⟩)
    have k1 : Keep I I1 := Keep.fr r3 (by decide)
    obtain ⟨I', t1, t2⟩ := mv_in hn j (i + 1) m I1 (h.keep k1) (by omega) (by omega) r2
    refine ⟨I', ?_, k1.trans t2⟩
    rw [fx_s, bd_95_2, ← t1]
    simp (disch := omega) only [lits, ltN, hi, if_true, r1, Option.bind_some, addN]
/-- the model's places by n deals -/
theorem me_in {n : Nat} (hn : n ≤ 60) : ∀ (j i m : Nat) (I : Nat → Nat → Int32), SetP C H N M w K S Y I → i + j = n → j < m → (∀ q, q < C → I 116 q = nI (en C H (max N 1) K S Y i q)) → ∃ I', fx (fun _ _ _ => none) bd_183_1 m (nI n) (nI i) I = some I' ∧ Keep I I' ∧ I' 97 = I 97 ∧ (∀ q, q < C → I' 116 q = nI (en C H (max N 1) K S Y n q))
  | _, _, 0, _, _, _, h, _ => absurd h (Nat.not_lt_zero _)
  | 0, i, m + 1, I, h, e, _, he => by
    obtain rfl : i = n := by omega
    refine ⟨I, ?_, Keep.refl I, rfl, he⟩
    rw [fx_s, bd_183_1]
    simp (disch := omega) only [ltN, Nat.lt_irrefl, if_false]
  | j + 1, i, m + 1, I, h, e, hm, he => by
    have hi : i < n := by omega
    obtain ⟨I1, r1, r2, r3, r4, _⟩ := h.f181 (i := i) (ly := Y (i % max N 1)) (by omega) (Or.inl ⟨rfl, rfl⟩) (fun q hq => ⟨h.en_lt hq i, he q hq⟩)
    obtain ⟨I', t1, t2, t3, t4⟩ := me_in hn j (i + 1) m I1 (h.keep r3) (by omega) (by omega) r2
    refine ⟨I', ?_, r3.trans t2, t3.trans r4, t4⟩
    rw [fx_s, bd_183_1, ← t1]
    simp (disch := omega) only [lits, ltN, hi, if_true, Option.bind_some, addN]
    have e1 : f_181 (nI i) (-nI 1) I = some I1 := r1
    rw [e1]
    rfl
theorem SetP.f183 (h : SetP C H N M w K S Y I) {n : Nat} (hn : n ≤ 60) : ∃ I', f_183 (nI n) I = some I' ∧ Keep I I' ∧ I' 97 = I 97 ∧ (∀ q, q < C → I' 116 q = nI (en C H (max N 1) K S Y n q)) := by
  have c4 := h.ch.2.2.2
  obtain ⟨I1, r1, r2, r3⟩ := f182_s I
  have k1 : Keep I I1 := Keep.fr r3 (by decide)
  obtain ⟨I', t1, t2, t3, t4⟩ := me_in hn n 0 FU I1 (h.keep k1) (by omega) (FU_big (by omega)) (fun q hq => r2 q (by omega))
  refine ⟨I', ?_, k1.trans t2, by rw [t3, r3 97 (by decide)], t4⟩
  unfold f_183
  rw [r1, Option.bind_some]
  exact t1
theorem end_s (h : SetP C H N M w K S Y I) (x1 x2 : Int32) : ∃ q b I2, f_94 x1 x2 I = some q ∧ f_185 x1 x2 I = some (b, I2) ∧ Keep I I2 ∧ OKq cdB q b (I2 97 0) := by
  obtain ⟨c1, c2, c3, c4⟩ := h.ch
  have h0 := h.up0 (nI 0)
  have z0 : (up I 97 0 (nI 0)) 97 0 = nI 0 := up_at
  have k0 := (Keep.refl I).up0 (nI 0)
  rcases ix x1 C (by omega) with ⟨p, hp', rfl⟩ | o1
  · rcases ixw x2 0 60 (by omega) (by omega) with ⟨n, _, hn, rfl⟩ | o2
    · obtain ⟨I2, r1, r2, r3, r4⟩ := h0.f183 hn
      have p6 : p < 60 := by omega
      refine ⟨.inl (nI (en C H (max N 1) K S Y n p)), nI (en C H (max N 1) K S Y n p), I2, ?_, ?_, k0.trans r2, ?_⟩
      · unfold f_94
        simp only [lits, f56_y h.i4 (by omega) hp', f122_y (Nat.zero_le n) hn (by omega), h.f55 hp' hn, Option.bind_some, e10, if_false]
      · unfold f_185
        simp (disch := omega) only [lits, f176_y z0 h0.m1 (by omega) hp', f178_y z0 hn, r1, Option.bind_some, e10, if_false, inN, clN, p6, if_true, r4 p hp']
      · rw [r3, z0]
        exact ⟨rfl, rfl⟩
    · refine ⟨.inr 0, nI 0, up (up I 97 0 (nI 0)) 97 0 (nI 2), ?_, ?_, k0.up0 _, by rw [up_at]; exact ⟨rfl, by decide, by decide⟩⟩
      · unfold f_94
        simp only [lits, f56_y h.i4 (by omega) hp', f122_n o2, Option.bind_some, e10, if_false, if_true]
      · unfold f_185 lb_185_1
        simp only [lits, f176_y z0 h0.m1 (by omega) hp', f178_n (w := 2) z0 (by decide) (by decide) o2, Option.bind_some, e10, if_false, if_true]
  · refine ⟨.inr 1, nI 0, up (up I 97 0 (nI 0)) 97 0 (nI 1), ?_, ?_, k0.up0 _, by rw [up_at]; exact ⟨rfl, by decide, by decide⟩⟩
    · unfold f_94
      simp only [lits, f56_n h.i4 (by omega) (by omega) o1, Option.bind_some, if_true]
    · unfold f_185 lb_185_1
      simp only [lits, f176_n z0 h0.m1 o1, Option.bind_some, if_true]
theorem sure_s (h : SetP C H N M w K S Y I) (x1 : Int32) : ∃ q I1 b I2, f_95 x1 I = some (q, I1) ∧ Keep I I1 ∧ f_186 x1 I1 = some (b, I2) ∧ Keep I1 I2 ∧ OKq cdI q b (I2 97 0) := by
  obtain ⟨c1, c2, c3, c4⟩ := h.ch
  rcases ixw x1 0 60 (by omega) (by omega) with ⟨n, _, hn, rfl⟩ | o2
  · obtain ⟨I0, s1, s2, s3⟩ := f115_s I
    have k0 : Keep I I0 := Keep.fr s3 (by decide)
    obtain ⟨I1, t1, t2⟩ := mv_in hn n 0 FU I0 (h.keep k0) (by omega) (FU_big (by omega)) (fun q hq => s2 q (by omega))
    have k1 := k0.trans t2
    have h1 := (h.keep k1).up0 (nI 0)
    have z0 : (up I1 97 0 (nI 0)) 97 0 = nI 0 := up_at
    obtain ⟨I2, r1, r2, r3, r4⟩ := h1.f183 hn
    have h2 := h1.keep r2
    have g := f184_s h2.m1 c4 (by omega) (fun q hq => ⟨h.en_lt hq n, r4 q hq⟩)
    refine ⟨.inl (if ∀ q, q < C → en C H (max N 1) K S Y n q = en C H (max N 1) K S Y n 0 then nI (en C H (max N 1) K S Y n 0) else -1), I1, (if ∀ q, q < C → en C H (max N 1) K S Y n q = en C H (max N 1) K S Y n 0 then nI (en C H (max N 1) K S Y n 0) else -1), I2, ?_, k1, ?_, ((Keep.refl I1).up0 _).trans r2, ?_⟩
    · unfold f_95
      simp only [lits, f122_y (Nat.zero_le n) hn (by omega), s1, Option.bind_some, e10, if_false]
      exact t1
    · have z6 : 0 < 60 := by omega
      have g0 := r4 0 (by omega)
      unfold f_186 lb_186_3
      simp (disch := omega) only [lits, f178_y z0 hn, r1, g, Option.bind_some, e10, if_false, inN, clN, z6, if_true, g0]
      split
      · simp only [e10, if_false]
      · simp only [if_true]
    · rw [r3, z0]
      exact ⟨rfl, rfl⟩
  · have k0 := (Keep.refl I).up0 (nI 0)
    have z0 : (up I 97 0 (nI 0)) 97 0 = nI 0 := up_at
    refine ⟨.inr 0, I, nI 0, up (up I 97 0 (nI 0)) 97 0 (nI 1), ?_, Keep.refl I, ?_, k0.up0 _, by rw [up_at]; exact ⟨rfl, by decide, by decide⟩⟩
    · unfold f_95
      simp only [lits, f122_n o2, Option.bind_some, if_true]
    · unfold f_186
      simp only [lits, f178_n (w := 1) z0 (by decide) (by decide) o2, Option.bind_some, if_true]
/-- soonest, as both count it -/
def sres (A : Nat → Prop) (D : ∀ n, Decidable (A n)) : Nat → Nat → Int32
  | 0, _ => -1
  | j + 1, n => @ite _ (A n) (D n) (nI n) (sres A D j (n + 1))
def AE (C H N : Nat) (K S : Nat → Nat) (Y : Nat → Nat → Nat) (n : Nat) : Prop := ∀ q, q < C → en C H (max N 1) K S Y n q = en C H (max N 1) K S Y n 0
def AEd (C H N : Nat) (K S : Nat → Nat) (Y : Nat → Nat → Nat) (n : Nat) : Decidable (AE C H N K S Y n) := Nat.decidableBallLT C (fun q _ => en C H (max N 1) K S Y n q = en C H (max N 1) K S Y n 0)
theorem so_c : ∀ (j n m : Nat) (I : Nat → Nat → Int32), SetP C H N M w K S Y I → n + j = 61 → j < m → (∀ q, q < C → I 59 q = nI (en C H (max N 1) K S Y n q)) → ∃ I', fx (fun _ _ => none) bd_96_1 m (nI n) I = some (sres (AE C H N K S Y) (AEd C H N K S Y) j n, I') ∧ Keep I I'
  | _, _, 0, _, _, _, h, _ => absurd h (Nat.not_lt_zero _)
  | 0, n, m + 1, I, h, e, _, he => by
    obtain rfl : n = 61 := by omega
    refine ⟨I, ?_, Keep.refl I⟩
    rw [fx_s, bd_96_1]
    rfl
  | j + 1, n, m + 1, I, h, e, hm, he => by
    obtain ⟨c1, c2, c3, c4⟩ := h.ch
    have n6 : ¬ 60 < n := by omega
    have g := f117_s h.i4 c4 (by omega) (fun q hq => ⟨h.en_lt hq n, he q hq⟩)
    have l0 := h.en_lt (p := 0) (by omega) n
    by_cases q : AE C H N K S Y n
    · refine ⟨I, ?_, Keep.refl I⟩
      have g' : f_117 I = some (nI (en C H (max N 1) K S Y n 0)) := by
        rw [g, if_pos (show (∀ z, z < C → en C H (max N 1) K S Y n z = en C H (max N 1) K S Y n 0) from q)]
      rw [sres, if_pos q, fx_s, bd_96_1, g']
      simp (disch := omega) only [lits, ltN, n6, if_false, Option.bind_some, ne1N]
    · have g' : f_117 I = some (-1) := by
        rw [g, if_neg (show ¬ (∀ z, z < C → en C H (max N 1) K S Y n z = en C H (max N 1) K S Y n 0) from q)]
      obtain ⟨I1, r1, r2, r3⟩ := h.f116 (i := n) (by omega) (fun q hq => ⟨h.en_lt hq n, he q hq⟩)
      have k1 : Keep I I1 := Keep.fr r3 (by decide)
      obtain ⟨I', t1, t2⟩ := so_c j (n + 1) m I1 (h.keep k1) (by omega) (by omega) r2
      refine ⟨I', ?_, k1.trans t2⟩
      rw [sres, if_neg q, fx_s, bd_96_1, g', ← t1]
      simp (disch := omega) only [lits, ltN, n6, if_false, Option.bind_some, if_true, r1, addN]
theorem so_m : ∀ (j n m : Nat) (I : Nat → Nat → Int32), SetP C H N M w K S Y I → n + j = 61 → j < m → (∀ q, q < C → I 116 q = nI (en C H (max N 1) K S Y n q)) → ∃ I', fx (fun _ _ => none) bd_187_1 m (nI n) I = some (sres (AE C H N K S Y) (AEd C H N K S Y) j n, I') ∧ Keep I I' ∧ I' 97 = I 97
  | _, _, 0, _, _, _, h, _ => absurd h (Nat.not_lt_zero _)
  | 0, n, m + 1, I, h, e, _, he => by
    obtain rfl : n = 61 := by omega
    refine ⟨I, ?_, Keep.refl I, rfl⟩
    rw [fx_s, bd_187_1]
    rfl
  | j + 1, n, m + 1, I, h, e, hm, he => by
    obtain ⟨c1, c2, c3, c4⟩ := h.ch
    have n6 : ¬ 60 < n := by omega
    have g := f184_s h.m1 c4 (by omega) (fun q hq => ⟨h.en_lt hq n, he q hq⟩)
    by_cases q : AE C H N K S Y n
    · refine ⟨I, ?_, Keep.refl I, rfl⟩
      have g' : f_184 I = some (nI 1) := by
        rw [g, if_pos (show (∀ z, z < C → en C H (max N 1) K S Y n z = en C H (max N 1) K S Y n 0) from q)]
      rw [sres, if_pos q, fx_s, bd_187_1, g']
      simp (disch := omega) only [lits, ltN, n6, if_false, Option.bind_some, e10]
    · have g' : f_184 I = some (nI 0) := by
        rw [g, if_neg (show ¬ (∀ z, z < C → en C H (max N 1) K S Y n z = en C H (max N 1) K S Y n 0) from q)]
      obtain ⟨I1, r1, r2, r3, r4, _⟩ := h.f181 (i := n) (ly := Y (n % max N 1)) (by omega) (Or.inl ⟨rfl, rfl⟩) (fun q hq => ⟨h.en_lt hq n, he q hq⟩)
      have r1' : f_181 (nI n) (-nI 1) I = some I1 := r1
      obtain ⟨I', t1, t2, t3⟩ := so_m j (n + 1) m I1 (h.keep r3) (by omega) (by omega) r2
      refine ⟨I', ?_, r3.trans t2, t3.trans r4⟩
      rw [sres, if_neg q, fx_s, bd_187_1, g', ← t1]
      simp (disch := omega) only [lits, ltN, n6, if_false, Option.bind_some, if_true, r1', addN]
theorem soonest_s (h : SetP C H N M w K S Y I) : ∃ q I1 I2, f_96 I = some (q, I1) ∧ Keep I I1 ∧ f_187 I1 = some (q, I2) ∧ Keep I1 I2 := by
  obtain ⟨c1, c2, c3, c4⟩ := h.ch
  obtain ⟨I0, s1, s2, s3⟩ := f115_s I
  have k0 : Keep I I0 := Keep.fr s3 (by decide)
  obtain ⟨I1, t1, t2⟩ := so_c 61 0 FU I0 (h.keep k0) rfl (FU_big (by omega)) (fun q hq => s2 q (by omega))
  have k1 := k0.trans t2
  obtain ⟨I2, u1, u2, u3⟩ := f182_s (up I1 97 0 (nI 0))
  have k2 : Keep I1 I2 := ((Keep.refl I1).up0 (nI 0)).trans (Keep.fr u3 (by decide))
  obtain ⟨I3, v1, v2, v3⟩ := so_m 61 0 FU I2 ((h.keep k1).keep k2) rfl (FU_big (by omega)) (fun q hq => u2 q (by omega))
  refine ⟨sres (AE C H N K S Y) (AEd C H N K S Y) 61 0, I1, I3, ?_, k1, ?_, k2.trans v2⟩
  · unfold f_96
    rw [s1, Option.bind_some]
    exact t1
  · unfold f_187
    simp only [lits]
    rw [u1, Option.bind_some]
    exact v1
end EN
