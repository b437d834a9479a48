/-! Followed places: the class's table, the model's rows -/
/-- where a place ends by n deals -/
def en (C H R : Nat) (K S : Nat → Nat) (Y : Nat → Nat → Nat) : Nat → Nat → Nat
  | 0, p => p
  | n + 1, p => fw C H (K (n % R)) (S (n % R)) (Y (n % R)) (en C H R K S Y n p)
section FO
variable {C H N M w : Nat} {K S : Nat → Nat} {Y : Nat → Nat → Nat} {I : Nat → Nat → Int32}
theorem SetP.en_lt (h : SetP C H N M w K S Y I) {p : Nat} (hp' : p < C) : ∀ n, en C H (max N 1) K S Y n p < C
  | 0 => hp'
  | n + 1 => fw_lt h.ch.1 h.ch.2.2.1 (h.en_lt hp' n)
theorem SetP.f55_in (h : SetP C H N M w K S Y I) {p n : Nat} (hp' : p < C) (hn : n ≤ 60) : ∀ (j i m : Nat), i + j = n → j < m → fx (fun _ _ _ _ => none) bd_55_1 m (nI n) (nI (en C H (max N 1) K S Y i p)) (nI i) I = some (nI (en C H (max N 1) K S Y n p))
  | _, _, 0, _, h => absurd h (Nat.not_lt_zero _)
  | 0, i, m + 1, e, _ => by
    obtain rfl : i = n := by omega
    rw [fx_s, bd_55_1]
    simp (disch := omega) only [ltN, Nat.lt_irrefl, if_false]
  | j + 1, i, m + 1, e, hm => by
    have hi : i < n := by omega
    rw [fx_s, bd_55_1, h.f54 (i := i) (by omega) (h.en_lt hp' i)]
    simp (disch := omega) only [lits, ltN, addN, hi, if_true, Option.bind_some]
    exact h.f55_in hp' hn j (i + 1) m (by omega) (by omega)
theorem SetP.f55 (h : SetP C H N M w K S Y I) {p n : Nat} (hp' : p < C) (hn : n ≤ 60) : f_55 (nI p) (nI n) I = some (nI (en C H (max N 1) K S Y n p)) := h.f55_in hp' hn n 0 FU (by omega) (FU_big (by omega))
/-- the model's own followed places, a heap after another -/
theorem mf_4 {k s a : Nat} {ly : Nat → Nat} (hc : CH C H) (ha : a < H) (x1 x2 : Int32) (c1 : Int32 → Int32 → Int32 → (Nat → Nat → Int32) → Option (Nat → Nat → Int32)) : ∀ (j p n : Nat) (I : Nat → Nat → Int32), p + j = C → j < n → MD C H k s I → SM H (bef (ct C H k C) (ord a a (ly a) H)) I → (∀ q, q < C → (hp C H k q < a ∨ hp C H k q = a ∧ q < p) → I 117 q = nI (fw C H k s ly q)) → ∃ I', fx (fun _ _ _ _ _ => none) (bd_181_4 c1) n x1 x2 (nI a) (nI p) I = c1 x1 x2 (nI (a + 1)) I' ∧ (∀ q, q < C → hp C H k q < a + 1 → I' 117 q = nI (fw C H k s ly q)) ∧ Fr [117] I I'
  | _, _, 0, _, _, h, _, _, _ => absurd h (Nat.not_lt_zero _)
  | 0, p, n + 1, I, e, _, h, hs, ht => by
    have c4 := hc.2.2.2
    have c2 := hc.2.1
    obtain rfl : p = C := by omega
    refine ⟨I, ?_, fun q hq hl => ht q hq (by omega), Fr.refl _ _⟩
    rw [fx_s, bd_181_4]
    simp (disch := omega) only [h.1.1, ltN, Nat.lt_irrefl, if_false, lits, addN]
  | j + 1, p, n + 1, I, e, hn, h, hs, ht => by
    have hC := hc
    obtain ⟨q1, q2, q3, q4⟩ := hc
    have hp' : p < C := by omega
    have p6 : p < 60 := by omega
    have hl := hp_lt (k := k) q1 q3 hp'
    have e1 := h.2.1 p hp'
    rw [fx_s, bd_181_4]
    unfold lb_181_5
    by_cases q : hp C H k p = a
    · have g : f_170 (nI p) I = some (nI (fw C H k s ly p)) := by
        have := f170_s hC h hs hp'
        rw [this]
        unfold fw np
        rw [q]
      have fr1 : Fr [117] I (up I 117 p (nI (fw C H k s ly p))) := (Fr.refl _ _).up (by decide)
      obtain ⟨I', r1, r2, r3⟩ := mf_4 hC ha x1 x2 c1 j (p + 1) n (up I 117 p (nI (fw C H k s ly p))) (by omega) (by omega) (h.fr fr1 (by decide) (by decide) (by decide) (by decide)) (fun x hx => by rw [up_ne (by decide)]; exact hs x hx) (fun z hz hw => by
        rw [up_eq]
        split
        · next w => rw [w]
        · exact ht z hz (by omega))
      refine ⟨I', ?_, r2, fr1.trans r3⟩
      rw [← r1]
      simp (disch := omega) only [h.1.1, lits, ltN, inN, clN, eqN, e1, hp', p6, q, if_true, g, Option.bind_some, addN]
    · obtain ⟨I', r1, r2, r3⟩ := mf_4 hC ha x1 x2 c1 j (p + 1) n I (by omega) (by omega) h hs (fun z hz hw => ht z hz (by
        rcases hw with hw | hw
        · exact Or.inl hw
        · by_cases w : z = p
          · rw [w] at hw
            exact absurd hw.1 q
          · omega))
      refine ⟨I', ?_, r2, r3⟩
      rw [← r1]
      simp (disch := omega) only [h.1.1, lits, ltN, inN, clN, eqN, e1, hp', p6, q, if_true, if_false, addN]
theorem mf_8 {k : Nat} {e g : Nat → Nat} (hC : C ≤ 60) (hg : ∀ p, p < C → e p < C) : ∀ (j p n : Nat) (I : Nat → Nat → Int32), p + j = C → j < n → I 97 1 = nI C → (∀ q, q < C → I 117 q = nI (g q)) → (∀ q, q < C → I 116 q = nI (if q < p then g (e q) else e q)) → ∃ I', fx (fun _ _ => none) bd_181_8 n (nI p) I = some I' ∧ (∀ q, q < C → I' 116 q = nI (g (e q))) ∧ Fr [116] I I'
  | _, _, 0, _, _, h, _, _, _ => absurd h (Nat.not_lt_zero _)
  | 0, p, n + 1, I, e1, _, h1, h2, h3 => by
    obtain rfl : p = C := by omega
    refine ⟨I, ?_, fun q hq => by rw [h3 q hq, if_pos hq], Fr.refl _ _⟩
    rw [fx_s, bd_181_8]
    simp (disch := omega) only [h1, ltN, Nat.lt_irrefl, if_false]
  | j + 1, p, n + 1, I, e1, hn, h1, h2, h3 => by
    have hp' : p < C := by omega
    have p6 : p < 60 := by omega
    have g1 := h3 p hp'
    rw [if_neg (Nat.lt_irrefl p)] at g1
    have l1 := hg p hp'
    have l6 : e p < 60 := by omega
    have g2 := h2 _ l1
    obtain ⟨I', r1, r2, r3⟩ := mf_8 (k := k) hC hg j (p + 1) n (up I 116 p (nI (g (e p)))) (by omega) (by omega) (by rw [up_ne (by decide)]; exact h1) (fun q hq => by rw [up_ne (by decide)]; exact h2 q hq) (fun q hq => by
      rw [up_eq]
      split
      · next w => rw [w, if_pos (by omega)]
      · rw [h3 q hq]
        by_cases w : q < p
        · rw [if_pos w, if_pos (by omega)]
        · rw [if_neg w, if_neg (by omega)])
    refine ⟨I', ?_, r2, ((Fr.refl _ _).up (by decide)).trans r3⟩
    rw [fx_s, bd_181_8, ← r1]
    simp (disch := omega) only [h1, lits, ltN, inN, clN, hp', p6, l6, if_true, g1, g2, addN]
/-- a laying that is told, or none: by the rule -/
def LYo (H : Nat) (y : Nat → Nat) (x2 : Int32) (ly : Nat → Nat) : Prop := (x2 = -1 ∧ ly = y) ∨ (∃ l, l < H ∧ x2 = nI l ∧ ly = fun _ => l)
theorem mf_1 {i : Nat} {x2 : Int32} {ly : Nat → Nat} (hi : i < 2147483648) (hly : LYo H (Y (i % max N 1)) x2 ly) : ∀ (j a n : Nat) (I : Nat → Nat → Int32), SetP C H N M w K S Y I → a + j = H → j < n → MD C H (K (i % max N 1)) (S (i % max N 1)) I → (∀ q, q < C → hp C H (K (i % max N 1)) q < a → I 117 q = nI (fw C H (K (i % max N 1)) (S (i % max N 1)) ly q)) → ∃ I', fx (fun _ _ _ _ => none) bd_181_1 n (nI i) x2 (nI a) I = lb_181_8 (nI 0) I' ∧ (∀ q, q < C → I' 117 q = nI (fw C H (K (i % max N 1)) (S (i % max N 1)) ly q)) ∧ Fr [113, 114, 115, 117] I I'
  | _, _, 0, _, _, _, h, _, _ => absurd h (Nat.not_lt_zero _)
  | 0, a, n + 1, I, h, e, _, hm, ht => by
    have c1 := h.ch.1
    have c2 := h.ch.2.1
    have c3 := h.ch.2.2.1
    obtain rfl : a = H := by omega
    refine ⟨I, ?_, fun q hq => ht q hq (hp_lt c1 c3 hq), Fr.refl _ _⟩
    rw [fx_s, bd_181_1]
    simp (disch := omega) only [hm.1.2, ltN, Nat.lt_irrefl, if_false, lits]
  | j + 1, a, n + 1, I, h, e, hn, hm, ht => by
    have c2 := h.ch.2.1
    have c4 := h.ch.2.2.2
    have ha : a < H := by omega
    obtain ⟨e1, hl⟩ := h.f51 hi
    have lyl : ly a < H := by
      rcases hly with ⟨_, q⟩ | ⟨l, q1, _, q2⟩
      · rw [q]; exact h.yl hl ha
      · rw [q2]; exact q1
    obtain ⟨I1, r1, r2⟩ : ∃ I1, fx (fun _ _ _ _ => none) bd_181_1 (n + 1) (nI i) x2 (nI a) I = lb_181_3 (fx (fun _ _ _ _ => none) bd_181_1 n) (nI i) x2 (nI a) (nI a) (nI a) (nI (ly a)) I1 ∧ Fr [115] I I1 := by
      rcases hly with ⟨q0, q⟩ | ⟨l, q1, q0, q2⟩
      · obtain ⟨I1, s1, s2⟩ := h.f172 hl ha (hm.2.2.2 a ha)
        refine ⟨I1, ?_, s2⟩
        rw [fx_s, bd_181_1, h.f175 hi]
        simp (disch := omega) only [hm.1.2, ltN, ha, if_true, q0, Option.bind_some, s1, q]
      · refine ⟨I, ?_, Fr.refl _ _⟩
        rw [fx_s, bd_181_1, q0]
        simp (disch := omega) only [hm.1.2, ltN, ha, if_true, lits, ne1N, if_false, q2]
    have hm1 := hm.fr r2 (by decide) (by decide) (by decide) (by decide)
    obtain ⟨I2, t1, t2, t3, t4⟩ := f168_s h.ch ha ha lyl hm1
    have fr2 : Fr [113, 114, 115, 117] I I2 := (r2.mono (by decide)).trans (t4.mono (by decide))
    obtain ⟨I3, u1, u2, u3⟩ := mf_4 h.ch ha (nI i) x2 (fx (fun _ _ _ _ => none) bd_181_1 n) C 0 FU I2 (by omega) (FU_big (by omega)) t3 t2 (fun q hq hw => by
      rw [t4 117 (by decide), r2 117 (by decide)]
      exact ht q hq (by omega))
    have fr3 : Fr [113, 114, 115, 117] I I3 := fr2.trans (u3.mono (by decide))
    obtain ⟨I', v1, v2, v3⟩ := mf_1 hi hly j (a + 1) n I3 (h.keep (Keep.fr fr3 (by decide))) (by omega) (by omega) (t3.fr u3 (by decide) (by decide) (by decide) (by decide)) u2
    refine ⟨I', ?_, v2, fr3.trans v3⟩
    rw [r1, ← v1, ← u1]
    unfold lb_181_3
    rw [t1, Option.bind_some]
    rfl
/-- the model follows all places by a deal -/
theorem SetP.f181 (h : SetP C H N M w K S Y I) {i : Nat} {x2 : Int32} {ly e : Nat → Nat} (hi : i < 2147483648) (hly : LYo H (Y (i % max N 1)) x2 ly) (he : ∀ p, p < C → e p < C ∧ I 116 p = nI (e p)) : ∃ I', f_181 (nI i) x2 I = some I' ∧ (∀ p, p < C → I' 116 p = nI (fw C H (K (i % max N 1)) (S (i % max N 1)) ly (e p))) ∧ Keep I I' ∧ I' 97 = I 97 ∧ I' 118 = I 118 := by
  have c2 := h.ch.2.1
  have c4 := h.ch.2.2.2
  obtain ⟨e1, hl⟩ := h.f51 hi
  obtain ⟨I1, r1, r2, r3⟩ := f167_s h.ch (h.k3 hl) (h.s2 hl) h.mc
  have k1 : Keep I I1 := Keep.fr r3 (by decide)
  have h1 := h.keep k1
  obtain ⟨I2, s1, s2, s3⟩ := mf_1 hi hly H 0 FU I1 h1 (by omega) (FU_big (by omega)) r2 (fun q hq hw => absurd hw (Nat.not_lt_zero _))
  have k2 : Keep I1 I2 := Keep.fr s3 (by decide)
  have h2 := h1.keep k2
  obtain ⟨I3, t1, t2, t3⟩ := mf_8 (k := 0) (e := e) c4 (fun p hp => (he p hp).1) C 0 FU I2 (by omega) (FU_big (by omega)) h2.m1 s2 (fun q hq => by
    rw [if_neg (by omega), s3 116 (by decide), r3 116 (by decide)]
    exact (he q hq).2)
  refine ⟨I3, ?_, t2, (k1.trans k2).trans (Keep.fr t3 (by decide)), by rw [t3 97 (by decide), s3 97 (by decide), r3 97 (by decide)], by rw [t3 118 (by decide), s3 118 (by decide), r3 118 (by decide)]⟩
  unfold f_181
  rw [h.f173 hi, h.f174 hi, Option.bind_some, Option.bind_some, r1, Option.bind_some]
  show fx _ bd_181_1 FU (nI i) x2 (nI 0) I1 = _
  rw [s1]
  exact t1
end FO
