/-! wished: the first row is kept -/
section WS
variable {Z I : Nat → Nat → Int32}
theorem SetP.agree {C H N M w : Nat} {K S : Nat → Nat} {Y : Nat → Nat → Nat} {I' : Nat → Nat → Int32} (h : SetP C H N M w K S Y I) (f : ∀ a, a ∈ [75, 76, 77, 79, 80, 81, 82, 83, 98, 99, 100, 101] → I' a = I a) (k4 : I' 74 4 = I 74 4) (k5 : I' 74 5 = I 74 5) (k97 : ∀ k, 1 ≤ k → k ≤ 5 → I' 97 k = I 97 k) : SetP C H N M w K S Y I' := by
  obtain ⟨a1, a2, a3, a4, a5, a6, a7, a8, a9, b1, b2, b3⟩ := h
  have e79 := f 79 (by decide)
  have e80 := f 80 (by decide)
  have e81 := f 81 (by decide)
  have e82 := f 82 (by decide)
  have e83 := f 83 (by decide)
  have e98 := f 98 (by decide)
  have e99 := f 99 (by decide)
  have e100 := f 100 (by decide)
  have e101 := f 101 (by decide)
  refine ⟨a1, a2, a3, a4, a5.fr k4 k5 (f 75 (by decide)) (f 76 (by decide)) (f 77 (by decide)), by rw [e79]; exact a6, fun d hd => by rw [e80, e81]; exact a7 d hd, fun d h hd hh => by rw [e82]; exact a8 d h hd hh, fun d p hd hp => by rw [e83]; exact a9 d p hd hp, ?_, b2, fun d hd => ?_⟩
  · rw [k97 1 (by decide) (by decide), k97 2 (by decide) (by decide), k97 3 (by decide) (by decide), k97 4 (by decide) (by decide), k97 5 (by decide) (by decide)]
    exact b1
  · obtain ⟨c1, c2, P, a, d1, d2, d3, d4⟩ := b3 d hd
    exact ⟨by rw [e98]; exact c1, by rw [e99]; exact c2, P, a, by rw [e100]; exact d1, d2, by rw [e101]; exact d3, d4⟩
/-- all but the kept row -/
def KeepW (I I' : Nat → Nat → Int32) : Prop := Fr (119 :: SC) I I' ∧ I' 74 4 = I 74 4 ∧ I' 74 5 = I 74 5 ∧ ∀ k, k ≠ 0 → k ≠ 48 → k ≠ 49 → I' 97 k = I 97 k
theorem Keep.w {I I' : Nat → Nat → Int32} (h : Keep I I') : KeepW I I' := ⟨h.1.mono (fun a ha => List.mem_cons_of_mem _ ha), h.2.1, h.2.2.1, fun k h0 _ h2 => h.2.2.2.2.2 k h0 h2⟩
theorem KeepW.trans {I I' I'' : Nat → Nat → Int32} (h : KeepW I I') (h' : KeepW I' I'') : KeepW I I'' := ⟨h.1.trans h'.1, h'.2.1.trans h.2.1, h'.2.2.1.trans h.2.2.1, fun k h0 h1 h2 => (h'.2.2.2 k h0 h1 h2).trans (h.2.2.2 k h0 h1 h2)⟩
theorem KeepW.set {C H N M w : Nat} {K S : Nat → Nat} {Y : Nat → Nat → Nat} {I' : Nat → Nat → Int32} (k : KeepW I I') (h : SetP C H N M w K S Y I) : SetP C H N M w K S Y I' :=
  h.agree (fun a ha => k.1 a (by
    simp only [List.mem_cons, List.not_mem_nil, or_false] at ha
    rcases ha with rfl | rfl | rfl | rfl | rfl | rfl | rfl | rfl | rfl | rfl | rfl | rfl <;> decide)) k.2.1 k.2.2.1 (fun n h1 h2 => k.2.2.2 n (by omega) (by omega) (by omega))
theorem KeepW.inv {I' : Nat → Nat → Int32} (k : KeepW I I') (h : Inv Z I) (h3 : KeptP I') : Inv Z I' := by
  obtain ⟨o, C, H, N, M, w, K, S, Y, L, h1, h2, _, h4, h5, h6⟩ := h
  have c4 := h1.ch.2.2.2
  have h1' := k.set h1
  obtain ⟨f, k4, k5, k97⟩ := k
  refine ⟨o.fr f (by decide), C, H, N, M, w, K, S, Y, L, h1', h2.fr (by rw [f 60 (by decide)]) (f 61 (by decide)) (f 102 (by decide)) (k97 11 (by decide) (by decide) (by decide)), h3, h4.fr (f 58 (by decide)) (f 103 (by decide)) (k97 13 (by decide) (by decide) (by decide)), h5.fr c4 (by rw [f 87 (by decide)]) (k97 52 (by decide) (by decide) (by decide)) (fun a ha => f a ?_), h6.fr c4 (by rw [f 58 (by decide)]) (by rw [f 92 (by decide)]) (k97 59 (by decide) (by decide) (by decide)) (k97 60 (by decide) (by decide) (by decide)) (fun a ha => f a ?_)⟩
  · rcases ha with rfl | rfl | rfl | rfl | rfl | rfl | rfl | rfl | rfl <;> decide
  · rcases ha with rfl | rfl | rfl | rfl | rfl | rfl | rfl | rfl | rfl <;> decide
/-- the model keeps a row -/
theorem kd_in {H n row : Nat} (hn : n ≤ 5) (hrow : row < 10000) (hH : 2 ≤ H) (hH6 : H ≤ 6) (x3 : Int32) : ∀ (j m : Nat) (I : Nat → Nat → Int32), j ≤ n → j < m → I 97 2 = nI H → (∀ k, j ≤ k → k < n → I 119 k = nI (row / H ^ (n - 1 - k) % H)) → ∃ I', fx (fun _ _ _ _ => none) bd_190_4 m x3 (nI (row / H ^ (n - j))) (nI j - nI 1) I = some (x3, I') ∧ (∀ k, k < n → I' 119 k = nI (row / H ^ (n - 1 - k) % H)) ∧ Fr [119] I I' := by
  intro j
  induction j with
  | zero =>
    intro m I _ hm h2 h8
    cases m with
    | zero => omega
    | succ m =>
      refine ⟨I, ?_, fun k hk => h8 k (Nat.zero_le k) hk, Fr.refl _ _⟩
      rw [fx_s, bd_190_4, if_pos (by decide)]
  | succ j ih =>
    intro m I hj hm h2 h8
    cases m with
    | zero => omega
    | succ m =>
      have rl : row / H ^ (n - (j + 1)) ≤ row := Nat.div_le_self _ _
      have e1 : n - 1 - j = n - (j + 1) := by omega
      have ed : row / H ^ (n - (j + 1)) / H = row / H ^ (n - j) := by
        rw [Nat.div_div_eq_div_mul, ← Nat.pow_succ, show (n - (j + 1)).succ = n - j by omega]
      have xj : nI (j + 1) - nI 1 = nI j := subN (by omega)
      have xj2 : nI j + (-1) = nI j - nI 1 := by
        apply Int32.toInt_inj.mp
        rw [Int32.sub_eq_add_neg]
        rfl
      have j5 : j < 5 := by omega
      have z : ¬ nI H = 0 := by
        show ¬ nI H = nI 0
        rw [eqN (by omega) (by decide)]
        omega
      have fr1 : Fr [119] I (up I 119 j (nI (row / H ^ (n - (j + 1)) % H))) := (Fr.refl _ _).up (by decide)
      obtain ⟨I', a1, a2, a3⟩ := ih m (up I 119 j (nI (row / H ^ (n - (j + 1)) % H))) (by omega) (by omega) (by rw [up_ne (by decide)]; exact h2) (fun k k1 k2 => by
        rw [up_eq]
        split
        · next y => rw [y, e1]
        · exact h8 k (by omega) k2)
      refine ⟨I', ?_, a2, fr1.trans a3⟩
      have u2 : (up I 119 j (nI (row / H ^ (n - (j + 1)) % H))) 97 2 = nI H := by rw [up_ne (by decide)]; exact h2
      rw [← a1, xj, fx_s, bd_190_4, if_neg (show ¬ nI j < 0 from negN (by omega)), h2, if_neg z, if_pos ((inN (by omega)).mpr j5), clN (by omega), remN (by omega) (by omega) (by omega)]
      dsimp only
      rw [u2, if_neg z, divN (by omega) (by omega) (by omega), ed, ← xj2]
theorem wished_s (h : Inv Z I) (x1 x2 : Int32) : ∃ q I1 b I2, f_97 x1 x2 I = some (q, I1) ∧ f_190 x1 x2 I1 = some (b, I2) ∧ I1 0 = I 0 ∧ Inv Z I2 ∧ OKq cdB q b (I2 97 0) := by
  have hh := h
  obtain ⟨o, C, H, N, M, w, K, S, Y, L, h1, h2, h3, h4, h5, h6⟩ := h
  obtain ⟨c1, c2, c3, c4⟩ := h1.ch
  have h0 := h1.up0 (nI 0)
  have z0 : (up I 97 0 (nI 0)) 97 0 = nI 0 := up_at
  have k0 := (Keep.refl I).up0 (nI 0)
  rcases ix x1 C (by omega) with ⟨p, hp', rfl⟩ | o1
  · rcases ixw x2 1 5 (by omega) (by omega) with ⟨n, hn1, hn, rfl⟩ | o2
    · have pm := pow_le6 (m := n) c2 hn
      have nl := NR_le (C := C) (H := H) (R := max N 1) (K := K) (S := S) (m := n) (s := 2 ^ p) (H ^ n)
      obtain ⟨Ia, f1, a1, a2, a3, a4, a5⟩ := f82_s h1 hp' hn1 hn
      have cq : ∀ J : Nat → Nat → Int32, J 97 0 = nI 0 → SetP C H N M w K S Y J → f_176 (nI p) J = some (nI 1, J) := fun J j0 hJ => f176_y j0 hJ.m1 (by omega) hp'
      by_cases q : NR C H (max N 1) K S n (2 ^ p) (H ^ n) = 0
      · have ha := (h1.keep a2).up0 (nI 0)
        have za : (up Ia 97 0 (nI 0)) 97 0 = nI 0 := up_at
        obtain ⟨I2, b1, b2, b3, b4⟩ := f189_s ha hp' hn1 hn
        have kk := a2.trans (((Keep.refl Ia).up0 (nI 0)).trans b2)
        rw [q] at a1 b1
        refine ⟨.inl (nI 0), Ia, nI 0, I2, ?_, ?_, a2.1 0 (by decide), hh.keep kk, by rw [b3, za]; exact ⟨rfl, rfl⟩⟩
        · rw [f_97, f56_y h1.i4 (show C < 2147483648 by omega) hp', Option.bind_some, if_neg (show ¬ nI 1 = 0 by decide), show f_122 (nI n) (1 : Int32) (5 : Int32) = some (nI 1) from f122_y hn1 hn (by decide), Option.bind_some, if_neg (show ¬ nI 1 = 0 by decide), a1, Option.bind_some, if_neg (show ¬ (0 : Int32) < nI 0 by decide)]
          rfl
        · rw [f_190, show f_176 (nI p) (up Ia 97 0 (0 : Int32)) = some (nI 1, up Ia 97 0 (0 : Int32)) from cq _ za ha, Option.bind_some, if_neg (show ¬ nI 1 = 0 by decide), show f_133 (nI n) (1 : Int32) (5 : Int32) = some (nI 1) from f133_y hn1 hn (by decide), Option.bind_some]
          dsimp only
          rw [show f_132 (nI 1) (2 : Int32) (up Ia 97 0 (0 : Int32)) = some (nI 1, up Ia 97 0 (0 : Int32)) from f132_y za, Option.bind_some]
          dsimp only
          rw [if_neg (show ¬ nI 1 = 0 by decide), show f_189 (nI p) (nI n) (up Ia 97 0 (0 : Int32)) = some (nI 0, I2) from b1, Option.bind_some]
          rfl
      · have fin1 : CS C H (max N 1) K S n (2 ^ p) f1 ∧ ∀ c, CS C H (max N 1) K S n (2 ^ p) c → f1 ≤ c := by
          rcases a5 with ⟨z, _⟩ | ⟨_, b, c⟩
          · exact absurd z q
          · exact ⟨b, c⟩
        obtain ⟨Ib, hIb⟩ : ∃ Ib, Ib = up (up Ia 84 5 (nI f1)) 84 6 (nI n) := ⟨_, rfl⟩
        have kb : KeepW Ia Ib := by
          rw [hIb]
          refine ⟨((Fr.refl _ _).up (by decide)).up (by decide), ?_, ?_, fun k _ _ _ => ?_⟩
          · rw [up_ne (by decide), up_ne (by decide)]
          · rw [up_ne (by decide), up_ne (by decide)]
          · rw [up_ne (by decide), up_ne (by decide)]
        have b84 : Ib 84 5 = nI f1 ∧ Ib 84 6 = nI n := by
          rw [hIb]
          exact ⟨by rw [up_nk (by decide), up_at], up_at⟩
        have hb := (kb.set (h1.keep a2)).up0 (nI 0)
        have zb : (up Ib 97 0 (nI 0)) 97 0 = nI 0 := up_at
        obtain ⟨I2, b1, b2, b3, b4⟩ := f189_s hb hp' hn1 hn
        obtain ⟨fo, g1, g2, g3, g4⟩ := b4.resolve_left q
        have h2s := hb.keep b2
        obtain ⟨I3, d1, d2, d3⟩ := kd_in (H := H) (row := fo) hn (by omega) c1 c2 (nI (NR C H (max N 1) K S n (2 ^ p) (H ^ n))) n FU (up I2 97 48 (nI n)) (Nat.le_refl n) (FU_big (by omega)) (by rw [up_nk (by decide)]; exact h2s.m2) (fun k q1 q2 => absurd q2 (by omega))
        rw [Nat.sub_self, Nat.pow_zero, Nat.div_one] at d1
        have kc : KeepW I2 I3 := by
          refine ⟨((Fr.refl _ _).up (by decide)).trans (d3.mono (by decide)), ?_, ?_, fun k _ h48 _ => ?_⟩
          · rw [d3 74 (by decide), up_ne (by decide)]
          · rw [d3 74 (by decide), up_ne (by decide)]
          · rw [d3 97 (by decide), up_nk h48]
        have kall : KeepW I I3 := (((a2.w.trans kb).trans ((Keep.refl Ib).up0 (nI 0)).w).trans b2.w).trans kc
        have ef : f1 = cd6 H n fo := by
          obtain ⟨⟨row, r1, r2, r3⟩, mn⟩ := fin1
          have l1 := mn (cd6 H n fo) ⟨fo, g1, g3, rfl⟩
          have l2 : fo ≤ row := by
            rcases Nat.lt_or_ge row fo with z | z
            · exact absurd r2 (g4 row z)
            · exact z
          have l3 := cd6_mono c2 (by omega) n fo row g1 r1 l2
          omega
        have c6 := cd6_lt c2 (show 0 < H by omega) n fo
        have p6 : 6 ^ n ≤ 6 ^ 5 := Nat.pow_le_pow_right (by decide) hn
        have h65 : (6 : Nat) ^ 5 = 7776 := by decide
        have kp : KeptP I3 := by
          refine Or.inr ⟨n, f1, hn1, hn, ?_, ?_, ?_, by omega, fun i hi => ?_⟩
          · rw [d3 84 (by decide), up_ne (by decide), b2.2.2.2.2.1, up_ne (by decide)]
            exact b84.2
          · rw [d3 97 (by decide), up_at]
          · rw [d3 84 (by decide), up_ne (by decide), b2.2.2.2.1, up_ne (by decide)]
            exact b84.1
          · rw [d2 i hi, ef, cd6_dig c2 (by omega) n (n - 1 - i) fo (by omega)]
        have q' : (0 : Int32) < nI (NR C H (max N 1) K S n (2 ^ p) (H ^ n)) := (ltN (a := 0) (by decide) (by omega)).mpr (by omega)
        have q3 : ¬ nI (NR C H (max N 1) K S n (2 ^ p) (H ^ n)) = 0 := fun z => q ((eqN (b := 0) (by omega) (by decide)).mp z)
        refine ⟨.inl (nI (NR C H (max N 1) K S n (2 ^ p) (H ^ n))), Ib, nI (NR C H (max N 1) K S n (2 ^ p) (H ^ n)), I3, ?_, ?_, (by rw [hIb, up_ne (by decide), up_ne (by decide)]; exact a2.1 0 (by decide)), kall.inv hh kp, ?_⟩
        · have e83 : f_83 Ia = some Ib := by
            rw [f_83, a4, up_nk (show (2 : Nat) ≠ 5 by decide), a3, hIb]
          rw [f_97, f56_y h1.i4 (show C < 2147483648 by omega) hp', Option.bind_some, if_neg (show ¬ nI 1 = 0 by decide), show f_122 (nI n) (1 : Int32) (5 : Int32) = some (nI 1) from f122_y hn1 hn (by decide), Option.bind_some, if_neg (show ¬ nI 1 = 0 by decide), a1, Option.bind_some, if_pos q', e83, Option.bind_some]
          rfl
        · rw [f_190, show f_176 (nI p) (up Ib 97 0 (0 : Int32)) = some (nI 1, up Ib 97 0 (0 : Int32)) from cq _ zb hb, Option.bind_some, if_neg (show ¬ nI 1 = 0 by decide), show f_133 (nI n) (1 : Int32) (5 : Int32) = some (nI 1) from f133_y hn1 hn (by decide), Option.bind_some]
          dsimp only
          rw [show f_132 (nI 1) (2 : Int32) (up Ib 97 0 (0 : Int32)) = some (nI 1, up Ib 97 0 (0 : Int32)) from f132_y zb, Option.bind_some]
          dsimp only
          rw [if_neg (show ¬ nI 1 = 0 by decide), show f_189 (nI p) (nI n) (up Ib 97 0 (0 : Int32)) = some (nI (NR C H (max N 1) K S n (2 ^ p) (H ^ n)), I2) from b1, Option.bind_some]
          dsimp only
          rw [if_neg q3, up_nk (show (49 : Nat) ≠ 48 by decide), g2]
          exact d1
        · rw [d3 97 (by decide), up_nk (by decide), b3, zb]
          exact ⟨rfl, rfl⟩
    · refine ⟨.inr 0, I, nI 0, up (up I 97 0 (nI 0)) 97 0 (nI 2), ?_, ?_, rfl, hh.keep (k0.up0 _), by rw [up_at]; exact ⟨rfl, by decide, by decide⟩⟩
      · unfold f_97
        simp only [lits, f56_y h1.i4 (show C < 2147483648 by omega) hp', f122_n o2, Option.bind_some, e10, if_false, if_true]
      · unfold f_190 lb_190_1
        simp only [lits, f176_y z0 h0.m1 (show C < 2147483648 by omega) hp', f133_n o2, f132_n (w := 2) z0 (by decide) (by decide), Option.bind_some, e10, if_false, if_true]
  · refine ⟨.inr 1, I, nI 0, up (up I 97 0 (nI 0)) 97 0 (nI 1), ?_, ?_, rfl, hh.keep (k0.up0 _), by rw [up_at]; exact ⟨rfl, by decide, by decide⟩⟩
    · unfold f_97
      simp only [lits, f56_n h1.i4 (show C < 2147483648 by omega) (by omega) o1, Option.bind_some, if_true]
    · unfold f_190 lb_190_1
      simp only [lits, f176_n z0 h0.m1 o1, Option.bind_some, if_true]
end WS
