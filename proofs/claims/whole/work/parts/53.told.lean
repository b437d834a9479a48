/-! told, two, evenings, weighings -/
section TO
variable {C H N M w : Nat} {K S : Nat → Nat} {Y : Nat → Nat → Nat} {I : Nat → Nat → Int32}
theorem told_s (h : SetP C H N M w K S Y I) (x1 x2 x3 : Int32) : ∃ q b I2, f_92 x1 x2 x3 I = some q ∧ f_179 x1 x2 x3 I = some (b, I2) ∧ Keep I I2 ∧ OKq cdN q b (I2 97 0) := by
  obtain ⟨c1, c2, c3, c4⟩ := h.ch
  have n8 := h.2.1
  have h0 := h.up0 (nI 0)
  have z0 : (up I 97 0 (nI 0)) 97 0 = nI 0 := up_at
  have k0 := (Keep.refl I).up0 (nI 0)
  have bad : ∃ b I2, (nI 0, up (up I 97 0 (nI 0)) 97 0 (nI 1)) = (b, I2) ∧ Keep I I2 ∧ OKq cdN (.inr 1) b (I2 97 0) := ⟨_, _, rfl, k0.up0 _, by rw [up_at]; exact ⟨rfl, by decide, by decide⟩⟩
  have fin : f_92 x1 x2 x3 I = some (.inr 1) → f_179 x1 x2 x3 I = some (nI 0, up (up I 97 0 (nI 0)) 97 0 (nI 1)) → ∃ q b I2, f_92 x1 x2 x3 I = some q ∧ f_179 x1 x2 x3 I = some (b, I2) ∧ Keep I I2 ∧ OKq cdN q b (I2 97 0) := fun e1 e2 => by
    obtain ⟨b, I2, e, k, o⟩ := bad
    exact ⟨.inr 1, b, I2, e1, by rw [e2, e], k, o⟩
  rcases ix x1 N (by omega) with ⟨d, hd, rfl⟩ | o1
  · have d0 : ¬ d < 0 := by omega
    have d8 : d < 8 := by omega
    rcases ix x2 H (by omega) with ⟨a, ha, rfl⟩ | o2
    · have mN : max N 1 = N := by omega
      have dm : d % max N 1 = d := by rw [mN]; exact Nat.mod_eq_of_lt hd
      have hl : d < max N 1 := by omega
      have e51 := (h.f51 (i := d) (by omega)).1
      have e52 := h.f52 (i := d) (by omega)
      have e53 := h.f53 (i := d) (by omega) ha
      rw [dm] at e51 e52 e53
      rcases ixw x3 0 2 (by omega) (by omega) with ⟨j, _, hj, rfl⟩ | o3
      · obtain ⟨I1, r1, r2, r3⟩ := f167_s h.ch (h.k3 hl) (h.s2 hl) h0.mc
        have k1 : Keep (up I 97 0 (nI 0)) I1 := Keep.fr r3 (by decide)
        have h1 := h0.keep k1
        obtain ⟨I2, s1, s2⟩ := h1.f172 hl ha (r2.2.2.2 a ha)
        have g1 := (h0.2.2.2.2.2.2.2.2.2.2.2 d hd).1
        have g2 := (h0.2.2.2.2.2.2.2.2.2.2.2 d hd).2.1
        have g3 := (h1.2.2.2.2.2.2.2.2.2.2.2 d hd).1
        have g4 := (h1.2.2.2.2.2.2.2.2.2.2.2 d hd).2.1
        have i0 : I1 97 0 = nI 0 := by rw [r3 97 (by decide), z0]
        have i2 : I2 97 0 = nI 0 := by rw [s2 97 (by decide), i0]
        have jj : j = 0 ∨ j = 1 ∨ j = 2 := by omega
        have y0 : f_133 (nI j) (nI 0) (nI 2) = some (nI 1) := f133_y (by omega) hj (by omega)
        have hm : f_179 (nI d) (nI a) (nI j) I = (if j = 0 then some (nI (K d), I1) else if j = 1 then some (nI (S d), I1) else some (nI (Y d a), I2)) := by
          unfold f_179 lb_179_2 lb_179_3 lb_179_7
          simp (disch := omega) only [lits, n0N, h0.m3, ltN, Nat.not_lt_zero, Nat.reduceEqDiff, hd, if_true, if_false, f132_y z0, Option.bind_some, e10, f177_y z0 h0.m2 (show H < 2147483648 by omega) ha, y0, inN, clN, d8, g1, g2, r1, eqN, g3, g4, s1]
        have hcl : f_92 (nI d) (nI a) (nI j) I = (if j = 0 then some (.inl (nI (K d))) else if j = 1 then some (.inl (nI (S d))) else some (.inl (nI (Y d a)))) := by
          unfold f_92
          simp (disch := omega) only [lits, n0N, h.i8, ltN, Nat.not_lt_zero, Nat.reduceEqDiff, hd, if_true, if_false, f57_y h.i5 (show H < 2147483648 by omega) ha, Option.bind_some, e10, eqN, e51, e52, e53]
          rcases jj with rfl | rfl | rfl <;> rfl
        rw [hm, hcl]
        rcases jj with rfl | rfl | rfl
        · exact ⟨_, _, I1, rfl, rfl, k0.trans k1, by rw [i0]; exact ⟨rfl, rfl⟩⟩
        · exact ⟨_, _, I1, rfl, rfl, k0.trans k1, by rw [i0]; exact ⟨rfl, rfl⟩⟩
        · exact ⟨_, _, I2, rfl, rfl, (k0.trans k1).trans (Keep.fr s2 (by decide)), by rw [i2]; exact ⟨rfl, rfl⟩⟩
      · have t : ∀ v, v ≤ 2 → ¬ x3 = nI v := by
          intro v hv e
          rw [e, ltN (by omega) (by omega), ltN (by omega) (by omega)] at o3
          omega
        refine fin ?_ ?_
        · unfold f_92
          simp (disch := omega) only [lits, n0N, h.i8, ltN, Nat.not_lt_zero, Nat.reduceEqDiff, hd, if_true, if_false, f57_y h.i5 (show H < 2147483648 by omega) ha, Option.bind_some, e10, t 0 (by omega), t 1 (by omega), t 2 (by omega)]
        · unfold f_179 lb_179_2 lb_179_3
          simp (disch := omega) only [lits, n0N, h0.m3, ltN, Nat.not_lt_zero, Nat.reduceEqDiff, hd, if_true, if_false, f132_y z0, Option.bind_some, e10, f177_y z0 h0.m2 (show H < 2147483648 by omega) ha, f133_n o3, f132_n (w := 1) z0 (by decide) (by decide)]
    · refine fin ?_ ?_
      · unfold f_92 lb_92_1
        simp (disch := omega) only [lits, n0N, h.i8, ltN, Nat.not_lt_zero, Nat.reduceEqDiff, hd, if_true, if_false, f57_n h.i5 (show H < 2147483648 by omega) (by omega) o2, Option.bind_some]
      · unfold f_179 lb_179_2 lb_179_3
        simp (disch := omega) only [lits, n0N, h0.m3, ltN, Nat.not_lt_zero, Nat.reduceEqDiff, hd, if_true, if_false, f132_y z0, Option.bind_some, e10, f177_n (w := 1) z0 h0.m2 (by decide) (by decide) o2]
  · refine fin ?_ ?_
    · unfold f_92 lb_92_1
      simp only [lits, h.i8]
      rcases o1 with o1 | o1
      · rw [if_pos o1]
      · rw [if_neg o1]
        split <;> rfl
    · unfold f_179 lb_179_1 lb_179_2 lb_179_3
      simp only [lits, h0.m3, f132_n (w := 1) z0 (by decide) (by decide), Option.bind_some, if_true]
      rcases o1 with o1 | o1
      · rw [if_pos o1]
      · rw [if_neg o1]
        split <;> rfl
/-- two places, both followed -/
def twr (C H R : Nat) (K S : Nat → Nat) (Y : Nat → Nat → Nat) : Nat → Nat → Nat → Nat → Nat
  | 0, _, a, b => 60 * a + b
  | j + 1, i, a, b => twr C H R K S Y j (i + 1) (np C H (K (i % R)) (S (i % R)) (Y (i % R) (hp C H (K (i % R)) a)) (hp C H (K (i % R)) a) (hp C H (K (i % R)) b) a) (np C H (K (i % R)) (S (i % R)) (Y (i % R) (hp C H (K (i % R)) a)) (hp C H (K (i % R)) a) (hp C H (K (i % R)) b) b)
theorem two_cs {n i m a b : Nat} (hn : n ≤ 60) (h : SetP C H N M w K S Y I) (hi : i < n) (ha : a < C) (hb : b < C) : ∃ I2, fx (fun _ _ _ _ _ => none) bd_101_5 (m + 1) (nI n) (nI a) (nI b) (nI i) I = fx (fun _ _ _ _ _ => none) bd_101_5 m (nI n) (nI (np C H (K (i % max N 1)) (S (i % max N 1)) (Y (i % max N 1) (hp C H (K (i % max N 1)) a)) (hp C H (K (i % max N 1)) a) (hp C H (K (i % max N 1)) b) a)) (nI (np C H (K (i % max N 1)) (S (i % max N 1)) (Y (i % max N 1) (hp C H (K (i % max N 1)) a)) (hp C H (K (i % max N 1)) a) (hp C H (K (i % max N 1)) b) b)) (nI (i + 1)) I2 ∧ Keep I I2 := by
  obtain ⟨c1, c2, c3, c4⟩ := h.ch
  obtain ⟨e1, hl⟩ := h.f51 (i := i) (by omega)
  have hpa := hp_lt (k := K (i % max N 1)) c1 c3 ha
  have hpb := hp_lt (k := K (i % max N 1)) c1 c3 hb
  obtain ⟨I1, r1, r2, r3⟩ := f3_s (k := K (i % max N 1)) (s := S (i % max N 1)) h.dt
  have k1 := Keep.f3 r3 h.dt r2
  have h1 := h.keep k1
  obtain ⟨I2, t1, t2, t3, t4⟩ := f4_s h.ch (h.k3 hl) hpa hpb (h.yl hl hpa) r2
  have k2 : Keep I1 I2 := Keep.fr t4 (by decide)
  have g1 : f_10 (nI a) I2 = some (nI (np C H (K (i % max N 1)) (S (i % max N 1)) (Y (i % max N 1) (hp C H (K (i % max N 1)) a)) (hp C H (K (i % max N 1)) a) (hp C H (K (i % max N 1)) b) a)) := f10_s h.ch (h.k3 hl) (h.s2 hl) t3 t2 ha
  have g2 : f_10 (nI b) I2 = some (nI (np C H (K (i % max N 1)) (S (i % max N 1)) (Y (i % max N 1) (hp C H (K (i % max N 1)) a)) (hp C H (K (i % max N 1)) a) (hp C H (K (i % max N 1)) b) b)) := f10_s h.ch (h.k3 hl) (h.s2 hl) t3 t2 hb
  have e53 := h1.f53 (i := i) (show i < 2147483648 by omega) hpa
  refine ⟨I2, ?_, k1.trans k2⟩
  rw [fx_s, bd_101_5, if_pos ((ltN (by omega) (by omega)).mpr hi), e1, Option.bind_some, h.f52 (i := i) (by omega), Option.bind_some, r1, Option.bind_some, f8_s h.ch (h.k3 hl) r2 ha, Option.bind_some, e53, Option.bind_some, f8_s h.ch (h.k3 hl) r2 hb, Option.bind_some, t1, Option.bind_some, g1, Option.bind_some, g2, Option.bind_some, nI_1]
theorem two_c {n : Nat} (hn : n ≤ 60) : ∀ (j i m a b : Nat) (I : Nat → Nat → Int32), SetP C H N M w K S Y I → i + j = n → j < m → a < C → b < C → ∃ I', fx (fun _ _ _ _ _ => none) bd_101_5 m (nI n) (nI a) (nI b) (nI i) I = some (.inl (nI (twr C H (max N 1) K S Y j i a b)), I') ∧ Keep I I' := by
  intro j
  induction j with
  | zero =>
    intro i m a b I h e hm ha hb
    cases m with
    | zero => omega
    | succ m =>
      obtain rfl : i = n := by omega
      refine ⟨I, ?_, Keep.refl I⟩
      rw [fx_s, bd_101_5, twr]
      simp (disch := omega) only [ltN, Nat.lt_irrefl, if_false, lits, mulN, addN]
  | succ j ih =>
    intro i m a b I h e hm ha hb
    cases m with
    | zero => omega
    | succ m =>
      obtain ⟨c1, c2, c3, c4⟩ := h.ch
      have hpa := hp_lt (k := K (i % max N 1)) c1 c3 ha
      have hpb := hp_lt (k := K (i % max N 1)) c1 c3 hb
      obtain ⟨I2, t1, t2⟩ := two_cs (m := m) hn h (show i < n by omega) ha hb
      obtain ⟨I', u1, u2⟩ := ih (i + 1) m _ _ I2 (h.keep t2) (by omega) (by omega) (np_lt c1 c3 hpa hpb ha) (np_lt c1 c3 hpa hpb hb)
      refine ⟨I', ?_, t2.trans u2⟩
      rw [t1, twr]
      exact u1
theorem two_m {n : Nat} (hn : n ≤ 60) : ∀ (j i m a b : Nat) (I : Nat → Nat → Int32), SetP C H N M w K S Y I → i + j = n → j < m → a < C → b < C → ∃ I', fx (fun _ _ _ _ _ => none) bd_195_5 m (nI n) (nI a) (nI b) (nI i) I = some (nI (twr C H (max N 1) K S Y j i a b), I') ∧ Keep I I' ∧ I' 97 = I 97
  | _, _, 0, _, _, _, _, _, h, _, _ => absurd h (Nat.not_lt_zero _)
  | 0, i, m + 1, a, b, I, h, e, _, ha, hb => by
    obtain rfl : i = n := by omega
    refine ⟨I, ?_, Keep.refl I, rfl⟩
    rw [fx_s, bd_195_5, twr]
    simp (disch := omega) only [ltN, Nat.lt_irrefl, if_false, lits, mulN, addN]
  | j + 1, i, m + 1, a, b, I, h, e, hm, ha, hb => by
    obtain ⟨c1, c2, c3, c4⟩ := h.ch
    have hi : i < n := by omega
    have a6 : a < 60 := by omega
    have b6 : b < 60 := by omega
    obtain ⟨e1, hl⟩ := h.f51 (i := i) (by omega)
    have hpa := hp_lt (k := K (i % max N 1)) c1 c3 ha
    have hpb := hp_lt (k := K (i % max N 1)) c1 c3 hb
    obtain ⟨I1, r1, r2, r3⟩ := f167_s h.ch (h.k3 hl) (h.s2 hl) h.mc
    have k1 : Keep I I1 := Keep.fr r3 (by decide)
    have h1 := h.keep k1
    obtain ⟨I2, s1, s2⟩ := h1.f172 hl hpa (r2.2.2.2 _ hpa)
    have k2 : Keep I1 I2 := Keep.fr s2 (by decide)
    obtain ⟨I3, t1, t2, t3, t4⟩ := f168_s h.ch hpa hpb (h.yl hl hpa) (r2.fr s2 (by decide) (by decide) (by decide) (by decide))
    have k3 : Keep I2 I3 := Keep.fr t4 (by decide)
    have g1 : f_170 (nI a) I3 = some (nI (np C H (K (i % max N 1)) (S (i % max N 1)) (Y (i % max N 1) (hp C H (K (i % max N 1)) a)) (hp C H (K (i % max N 1)) a) (hp C H (K (i % max N 1)) b) a)) := f170_s h.ch t3 t2 ha
    have g2 : f_170 (nI b) I3 = some (nI (np C H (K (i % max N 1)) (S (i % max N 1)) (Y (i % max N 1) (hp C H (K (i % max N 1)) a)) (hp C H (K (i % max N 1)) a) (hp C H (K (i % max N 1)) b) b)) := f170_s h.ch t3 t2 hb
    have w1 := r2.2.1 a ha
    have w2 := r2.2.1 b hb
    obtain ⟨I', u1, u2, u3⟩ := two_m hn j (i + 1) m _ _ I3 ((h1.keep k2).keep k3) (by omega) (by omega) (np_lt (s := S (i % max N 1)) (l := Y (i % max N 1) (hp C H (K (i % max N 1)) a)) c1 c3 hpa hpb ha) (np_lt (s := S (i % max N 1)) (l := Y (i % max N 1) (hp C H (K (i % max N 1)) a)) c1 c3 hpa hpb hb)
    refine ⟨I', ?_, ((k1.trans k2).trans k3).trans u2, by rw [u3, t4 97 (by decide), s2 97 (by decide), r3 97 (by decide)]⟩
    rw [twr, fx_s, bd_195_5, ← u1, h.f173 (i := i) (by omega), h.f174 (i := i) (by omega)]
    simp (disch := omega) only [ltN, hi, if_true, Option.bind_some, r1, inN, clN, a6, b6, h1.f175 (i := i) (show i < 2147483648 by omega), w1, w2, s1, t1, g1, g2, lits, addN]
theorem two_s (h : SetP C H N M w K S Y I) (x1 x2 x3 : Int32) : ∃ q I1 b I2, f_101 x1 x2 x3 I = some (q, I1) ∧ Keep I I1 ∧ f_195 x1 x2 x3 I1 = some (b, I2) ∧ Keep I1 I2 ∧ OKq cdB q b (I2 97 0) := by
  obtain ⟨c1, c2, c3, c4⟩ := h.ch
  have h0 := h.up0 (nI 0)
  have z0 : (up I 97 0 (nI 0)) 97 0 = nI 0 := up_at
  have k0 := (Keep.refl I).up0 (nI 0)
  have bad1 : OKq cdB (.inr 1) (nI 0) ((up (up I 97 0 (nI 0)) 97 0 (nI 1)) 97 0) := by rw [up_at]; exact ⟨rfl, by decide, by decide⟩
  have bad2 : OKq cdB (.inr 0) (nI 0) ((up (up I 97 0 (nI 0)) 97 0 (nI 2)) 97 0) := by rw [up_at]; exact ⟨rfl, by decide, by decide⟩
  rcases ix x1 C (by omega) with ⟨a, ha, rfl⟩ | o1
  · rcases ix x2 C (by omega) with ⟨b, hb, rfl⟩ | o2
    · rcases ixw x3 0 60 (by omega) (by omega) with ⟨n, _, hn, rfl⟩ | o3
      · by_cases q : a = b
        · refine ⟨.inr 0, I, nI 0, up (up I 97 0 (nI 0)) 97 0 (nI 2), ?_, Keep.refl I, ?_, k0.up0 _, bad2⟩
          · unfold f_101 lb_101_3
            simp (disch := omega) only [lits, f56_y h.i4 (show C < 2147483648 by omega) ha, f56_y h.i4 (show C < 2147483648 by omega) hb, f122_y (Nat.zero_le n) hn (by omega), Option.bind_some, e10, if_false, eqN, Nat.reduceEqDiff, q, if_true]
          · unfold f_195 lb_195_2 lb_195_3
            simp (disch := omega) only [lits, f176_y z0 h0.m1 (show C < 2147483648 by omega) ha, f176_y z0 h0.m1 (show C < 2147483648 by omega) hb, f178_y z0 hn, Option.bind_some, e10, if_false, eqN, Nat.reduceEqDiff, q, if_true, f132_n (w := 2) z0 (by decide) (by decide)]
        · obtain ⟨I1, r1, r2⟩ := two_c hn n 0 FU a b I h (by omega) (FU_big (by omega)) ha hb
          have h1 := (h.keep r2).up0 (nI 0)
          have z1 : (up I1 97 0 (nI 0)) 97 0 = nI 0 := up_at
          obtain ⟨I2, t1, t2, t3⟩ := two_m hn n 0 FU a b _ h1 (by omega) (FU_big (by omega)) ha hb
          refine ⟨.inl (nI (twr C H (max N 1) K S Y n 0 a b)), I1, nI (twr C H (max N 1) K S Y n 0 a b), I2, ?_, r2, ?_, ((Keep.refl I1).up0 _).trans t2, ?_⟩
          · unfold f_101
            simp (disch := omega) only [lits, f56_y h.i4 (show C < 2147483648 by omega) ha, f56_y h.i4 (show C < 2147483648 by omega) hb, f122_y (Nat.zero_le n) hn (by omega), Option.bind_some, e10, if_false, eqN, q]
            exact r1
          · unfold f_195 lb_195_2
            simp (disch := omega) only [lits, f176_y z1 h1.m1 (show C < 2147483648 by omega) ha, f176_y z1 h1.m1 (show C < 2147483648 by omega) hb, f178_y z1 hn, Option.bind_some, e10, if_false, eqN, q, f132_y z1]
            exact t1
          · rw [t3, z1]
            exact ⟨rfl, rfl⟩
      · refine ⟨.inr 0, I, nI 0, up (up I 97 0 (nI 0)) 97 0 (nI 2), ?_, Keep.refl I, ?_, k0.up0 _, bad2⟩
        · unfold f_101 lb_101_3
          simp only [lits, f56_y h.i4 (show C < 2147483648 by omega) ha, f56_y h.i4 (show C < 2147483648 by omega) hb, f122_n o3, Option.bind_some, e10, if_false, if_true]
        · unfold f_195 lb_195_3
          simp only [lits, f176_y z0 h0.m1 (show C < 2147483648 by omega) ha, f176_y z0 h0.m1 (show C < 2147483648 by omega) hb, f178_n (w := 2) z0 (by decide) (by decide) o3, Option.bind_some, e10, if_false, if_true]
    · refine ⟨.inr 1, I, nI 0, up (up I 97 0 (nI 0)) 97 0 (nI 1), ?_, Keep.refl I, ?_, k0.up0 _, bad1⟩
      · unfold f_101 lb_101_1
        simp only [lits, f56_y h.i4 (show C < 2147483648 by omega) ha, f56_n h.i4 (show C < 2147483648 by omega) (by omega) o2, Option.bind_some, e10, if_false, if_true]
      · unfold f_195 lb_195_3
        simp only [lits, f176_y z0 h0.m1 (show C < 2147483648 by omega) ha, f176_n z0 h0.m1 o2, Option.bind_some, e10, if_false, if_true]
  · refine ⟨.inr 1, I, nI 0, up (up I 97 0 (nI 0)) 97 0 (nI 1), ?_, Keep.refl I, ?_, k0.up0 _, bad1⟩
    · unfold f_101 lb_101_1
      simp only [lits, f56_n h.i4 (show C < 2147483648 by omega) (by omega) o1, Option.bind_some, if_true]
    · unfold f_195 lb_195_3
      simp only [lits, f176_n z0 h0.m1 o1, Option.bind_some, if_true]
end TO
