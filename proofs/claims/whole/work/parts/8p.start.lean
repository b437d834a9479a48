/-! the model takes over; the first token -/
theorem f163_s (K : Nat → Nat → Int32) : ∃ K', f_163 K = some K' ∧ (∀ p, p < 60 → K' 122 p = nI p ∧ K' 123 p = nI p ∧ K' 124 p = nI 0) ∧ K' 97 52 = nI 0 ∧ Fr [97, 122, 123, 124] K K' ∧ (∀ k, k ≠ 52 → K' 97 k = K 97 k) := by
  have loop : ∀ (j p n : Nat) (J : Nat → Nat → Int32), p + j = 60 → j < n → (∀ p', p' < p → J 122 p' = nI p' ∧ J 123 p' = nI p' ∧ J 124 p' = nI 0) → ∃ J', fx (fun _ _ => none) bd_163_1 n (nI p) J = some (up J' 97 52 (0 : Int32)) ∧ (∀ p', p' < 60 → J' 122 p' = nI p' ∧ J' 123 p' = nI p' ∧ J' 124 p' = nI 0) ∧ Fr [122, 123, 124] J J' := by
    intro j
    induction j with
    | zero =>
      intro p n J e hn h
      cases n with
      | zero => omega
      | succ n =>
        obtain rfl : p = 60 := by omega
        refine ⟨J, ?_, h, Fr.refl _ _⟩
        rw [fx_s, bd_163_1, if_neg (show ¬ nI 60 < (60 : Int32) by decide)]
    | succ j ih =>
      intro p n J e hn h
      cases n with
      | zero => omega
      | succ n =>
        have op : nI p + (1 : Int32) = nI (p + 1) := addN p 1
        have iP : ex_in (nI p) 60 := (inN (by omega)).mpr (by omega)
        obtain ⟨J', t1, t2, t3⟩ := ih (p + 1) n (up (up (up J 122 p (nI p)) 123 p (nI p)) 124 p (nI 0)) (by omega) (by omega) (fun p' hp' => by
          rw [up_ne (show (122 : Nat) ≠ 124 by decide), up_ne (show (122 : Nat) ≠ 123 by decide), up_ne (show (123 : Nat) ≠ 124 by decide)]
          by_cases z : p' = p
          · rw [z, up_at, up_at, up_at]
            exact ⟨rfl, rfl, rfl⟩
          · rw [up_nk z, up_nk z, up_nk z, up_ne (show (123 : Nat) ≠ 122 by decide), up_ne (show (124 : Nat) ≠ 123 by decide), up_ne (show (124 : Nat) ≠ 122 by decide)]
            exact h p' (by omega))
        refine ⟨J', ?_, t2, ((((Fr.refl _ _).up (by decide)).up (by decide)).up (by decide)).trans t3⟩
        rw [fx_s, bd_163_1, if_pos (show nI p < (60 : Int32) from (ltN (b := 60) (by omega) (by decide)).mpr (by omega)), if_pos iP, if_pos iP, if_pos iP, clN (by omega)]
        try dsimp only
        rw [op]
        exact t1
  obtain ⟨J', t1, t2, t3⟩ := loop 60 0 FU K (by omega) (FU_big (by decide)) (fun p' hp' => absurd hp' (Nat.not_lt_zero _))
  refine ⟨_, t1, fun p hp' => ?_, up_at, (t3.mono (by decide)).up (by decide), fun k hk => ?_⟩
  · rw [up_ne (by decide), up_ne (by decide), up_ne (by decide)]; exact t2 p hp'
  · rw [up_nk hk, t3 97 (by decide)]
theorem m162_g {K : Nat → Nat → Int32} {J : Nat → Nat → Int64} (h12 : K 97 12 = nI 0) : ∃ K', lb_162_6 K J = some (0, K', J) ∧ (K' 97 1 = K 97 23 ∧ K' 97 2 = K 97 24 ∧ K' 97 3 = K 97 25 ∧ K' 97 4 = K 97 26 ∧ K' 97 5 = K 97 27) ∧ (∀ i, i < 8 → K' 98 i = K 104 i ∧ K' 99 i = K 105 i ∧ K' 100 i = K 106 i) ∧ (∀ i, i < 1300 → K' 101 i = K 107 i) ∧ (∀ p, p < 60 → K' 122 p = nI p ∧ K' 123 p = nI p ∧ K' 124 p = nI 0) ∧ K' 97 52 = nI 0 ∧ K' 97 48 = -1 ∧ K' 97 59 = nI 0 ∧ Fr [97, 98, 99, 100, 101, 122, 123, 124] K K' ∧ (∀ k, k ∉ [1, 2, 3, 4, 5, 48, 52, 59] → K' 97 k = K 97 k) := by
  have u1 : Uk 97 [1, 2, 3, 4, 5] K (up (up (up (up (up K 97 1 (K 97 23)) 97 2 (K 97 24)) 97 3 (K 97 25)) 97 4 (K 97 26)) 97 5 (K 97 27)) := (((((Uk.refl _ _ _).up (by decide)).up (by decide)).up (by decide)).up (by decide)).up (by decide)
  have p1 : (up (up (up (up (up K 97 1 (K 97 23)) 97 2 (K 97 24)) 97 3 (K 97 25)) 97 4 (K 97 26)) 97 5 (K 97 27)) 97 1 = K 97 23 := by rw [up_nk (by decide), up_nk (by decide), up_nk (by decide), up_nk (by decide), up_at]
  have p2 : (up (up (up (up (up K 97 1 (K 97 23)) 97 2 (K 97 24)) 97 3 (K 97 25)) 97 4 (K 97 26)) 97 5 (K 97 27)) 97 2 = K 97 24 := by rw [up_nk (by decide), up_nk (by decide), up_nk (by decide), up_at]
  have p3 : (up (up (up (up (up K 97 1 (K 97 23)) 97 2 (K 97 24)) 97 3 (K 97 25)) 97 4 (K 97 26)) 97 5 (K 97 27)) 97 3 = K 97 25 := by rw [up_nk (by decide), up_nk (by decide), up_at]
  have p4 : (up (up (up (up (up K 97 1 (K 97 23)) 97 2 (K 97 24)) 97 3 (K 97 25)) 97 4 (K 97 26)) 97 5 (K 97 27)) 97 4 = K 97 26 := by rw [up_nk (by decide), up_at]
  have p5 : (up (up (up (up (up K 97 1 (K 97 23)) 97 2 (K 97 24)) 97 3 (K 97 25)) 97 4 (K 97 26)) 97 5 (K 97 27)) 97 5 = K 97 27 := by rw [up_at]
  have hd : lb_162_6 K J = ((f_134 (up (up (up (up (up K 97 1 (K 97 23)) 97 2 (K 97 24)) 97 3 (K 97 25)) 97 4 (K 97 26)) 97 5 (K 97 27))).bind fun q24 => ((f_134_97_105_99 q24).bind fun q25 => ((f_134_97_106_100 q25).bind fun q26 => ((f_134_97_107_101 q26).bind fun q27 => ((f_163 q27).bind fun q28 => some ((0 : Int32), up (up q28 97 48 ((-1) : Int32)) 97 59 (0 : Int32), J)))))) := by
    rw [lb_162_6, f145_y h12, Option.bind_some, if_neg (show ¬ nI 1 = 0 by decide)]
    dsimp only
    rw [up_nk (show (24 : Nat) ≠ 1 by decide), up_nk (show (25 : Nat) ≠ 2 by decide), up_nk (show (25 : Nat) ≠ 1 by decide), up_nk (show (26 : Nat) ≠ 3 by decide), up_nk (show (26 : Nat) ≠ 2 by decide), up_nk (show (26 : Nat) ≠ 1 by decide), up_nk (show (27 : Nat) ≠ 4 by decide), up_nk (show (27 : Nat) ≠ 3 by decide), up_nk (show (27 : Nat) ≠ 2 by decide), up_nk (show (27 : Nat) ≠ 1 by decide)]
  generalize up (up (up (up (up K 97 1 (K 97 23)) 97 2 (K 97 24)) 97 3 (K 97 25)) 97 4 (K 97 26)) 97 5 (K 97 27) = K1 at u1 hd p1 p2 p3 p4 p5
  obtain ⟨K2, a1, a2, a3⟩ := cp_134 K1
  obtain ⟨K3, b1, b2, b3⟩ := cp_134_97_105_99 K2
  obtain ⟨K4, c1, c2, c3⟩ := cp_134_97_106_100 K3
  obtain ⟨K5, d1, d2, d3⟩ := cp_134_97_107_101 K4
  obtain ⟨K6, e1, e2, e3, e4, e5⟩ := f163_s K5
  have s97 : ∀ k, k ≠ 48 → k ≠ 52 → k ≠ 59 → (up (up K6 97 48 ((-1) : Int32)) 97 59 (0 : Int32)) 97 k = K1 97 k := fun k h1 h2 h3 => by
    rw [up_nk h3, up_nk h1, e5 k h2, d3 97 (by decide), c3 97 (by decide), b3 97 (by decide), a3 97 (by decide)]
  refine ⟨up (up K6 97 48 ((-1) : Int32)) 97 59 (0 : Int32), ?_, ⟨?_, ?_, ?_, ?_, ?_⟩, fun i hi => ⟨?_, ?_, ?_⟩, fun i hi => ?_, fun p hp' => ?_, ?_, ?_, ?_, ?_, fun k hk => ?_⟩
  · rw [hd, a1, Option.bind_some, b1, Option.bind_some, c1, Option.bind_some, d1, Option.bind_some, e1, Option.bind_some]
  · rw [s97 1 (by decide) (by decide) (by decide)]; exact p1
  · rw [s97 2 (by decide) (by decide) (by decide)]; exact p2
  · rw [s97 3 (by decide) (by decide) (by decide)]; exact p3
  · rw [s97 4 (by decide) (by decide) (by decide)]; exact p4
  · rw [s97 5 (by decide) (by decide) (by decide)]; exact p5
  · rw [up_ne (by decide), up_ne (by decide), e4 98 (by decide), d3 98 (by decide), c3 98 (by decide), b3 98 (by decide), a2 i hi, u1.1 104 (by decide)]
  · rw [up_ne (by decide), up_ne (by decide), e4 99 (by decide), d3 99 (by decide), c3 99 (by decide), b2 i hi, a3 105 (by decide), u1.1 105 (by decide)]
  · rw [up_ne (by decide), up_ne (by decide), e4 100 (by decide), d3 100 (by decide), c2 i hi, b3 106 (by decide), a3 106 (by decide), u1.1 106 (by decide)]
  · rw [up_ne (by decide), up_ne (by decide), e4 101 (by decide), d2 i hi, c3 107 (by decide), b3 107 (by decide), a3 107 (by decide), u1.1 107 (by decide)]
  · rw [up_ne (by decide), up_ne (by decide), up_ne (by decide), up_ne (by decide), up_ne (by decide), up_ne (by decide)]; exact e2 p hp'
  · rw [up_nk (by decide), up_nk (by decide)]; exact e3
  · rw [up_nk (by decide), up_at]
  · rw [up_at]; rfl
  · exact ((((((u1.1.mono (by decide)).trans (a3.mono (by decide))).trans (b3.mono (by decide))).trans (c3.mono (by decide))).trans (d3.mono (by decide))).trans (e4.mono (by decide))).up (by decide) |>.up (by decide)
  · rw [s97 k (fun z => hk (by rw [z]; decide)) (fun z => hk (by rw [z]; decide)) (fun z => hk (by rw [z]; decide)), u1.2 k (fun z => hk (by revert z; simp; omega))]
theorem f16_s (I : Nat → Nat → Int32) : ∃ I', f_16 I = some I' ∧ (∀ i, i < 4 → I' 63 i = I 55 i ∧ I' 64 i = nI 0) ∧ I' 62 6 = nI 0 ∧ I' 67 7 = nI 0 ∧ Fr [62, 63, 64, 67] I I' := by
  have loop : ∀ (j p n : Nat) (J : Nat → Nat → Int32), p + j = 4 → j < n → (∀ p', p' < p → J 64 p' = nI 0) → ∃ J', fx (fun _ _ => none) bd_16_1 n (nI p) J = some (up (up J' 62 6 (0 : Int32)) 67 7 (0 : Int32)) ∧ (∀ p', p' < 4 → J' 64 p' = nI 0) ∧ Fr [64] J J' := by
    intro j
    induction j with
    | zero =>
      intro p n J e hn h
      cases n with
      | zero => omega
      | succ n =>
        obtain rfl : p = 4 := by omega
        refine ⟨J, ?_, h, Fr.refl _ _⟩
        rw [fx_s, bd_16_1, if_neg (Int32.lt_irrefl (a := nI 4))]
    | succ j ih =>
      intro p n J e hn h
      cases n with
      | zero => omega
      | succ n =>
        have op : nI p + (1 : Int32) = nI (p + 1) := addN p 1
        obtain ⟨J', t1, t2, t3⟩ := ih (p + 1) n (up J 64 p (nI 0)) (by omega) (by omega) (fun p' hp' => by
          by_cases z : p' = p
          · rw [z, up_at]
          · rw [up_nk z]; exact h p' (by omega))
        refine ⟨J', ?_, t2, ((Fr.refl _ _).up (by decide)).trans t3⟩
        rw [fx_s, bd_16_1, if_pos ((ltN (by omega) (by decide)).mpr (by omega)), if_pos ((inN (by omega)).mpr (by omega)), clN (by omega), show vp_nar .boolean (0 : Int32) = nI 0 from rfl]
        try dsimp only
        rw [op]
        exact t1
  obtain ⟨J', t1, t2, t3⟩ := loop 4 0 FU (cpyf I 55 63 4) (by omega) (FU_big (by decide)) (fun p' hp' => absurd hp' (Nat.not_lt_zero _))
  refine ⟨_, t1, fun i hi => ⟨?_, ?_⟩, ?_, up_at, fun a ha => ?_⟩
  · rw [up_ne (by decide), up_ne (by decide), t3 63 (by decide), cpyf_at hi]
  · rw [up_ne (by decide), up_ne (by decide)]; exact t2 i hi
  · rw [up_ne (by decide), up_at]; rfl
  · rw [up_ne (fun z => ha (by rw [z]; decide)), up_ne (fun z => ha (by rw [z]; decide)), t3 a (fun z => ha (by revert z; simp; omega)), cpyf_ne (fun z => ha (by rw [z]; decide))]
/-- a text is read: both -/
theorem start_s {L n W : Nat} {I K : Nat → Nat → Int32} {J : Nat → Nat → Int64} (hL : L ≤ 500) (hT : ∀ i, i < L → ∃ b, b < 256 ∧ K 102 i = nI b ∧ (I 61 i &&& 255) = nI b) (h60 : I 60 1 = nI L) (hn : n ≤ L) (k0 : K 97 0 = nI 0) (hWZ : WZ I) (hWC : WC I) (hTN : TN I) : ∃ I0 K0 J0, Fr [60, 62, 63, 64, 67] I I0 ∧ Fr [97] K K0 ∧ (∀ k, k ∉ [11, 12, 13, 15, 16, 17, 18, 19, 20, 21, 23, 24, 25, 26, 27, 28, 29] → K0 97 k = K 97 k) ∧ UJ J J0 ∧ K0 97 11 = nI 0 ∧ K0 97 12 = nI 0 ∧ K0 97 13 = -1 ∧ (LLA I0 K0 J0 (f_17 (nI n) I W) (lb_162_2 (nI n) (1 : Int32) K J) ∨ LLB I0 K0 J0 (f_17 (nI n) I W) (lb_162_2 (nI n) (1 : Int32) K J)) := by
  obtain ⟨I1, a1, a2, a3, a4, a5⟩ := f16_s I
  have f1 : Fr [60, 62, 63, 64, 67] I (up (up I1 60 2 (nI n)) 60 3 (nI 0)) := ((a5.mono (by decide)).up (by decide)).up (by decide)
  have s1 : ∀ a, a ≠ 60 → (up (up I1 60 2 (nI n)) 60 3 (nI 0)) a = I1 a := fun a ha => by rw [up_ne ha, up_ne ha]
  have q2 : (up (up I1 60 2 (nI n)) 60 3 (nI 0)) 60 2 = nI n := by rw [up_nk (by decide), up_at]
  have q3 : (up (up I1 60 2 (nI n)) 60 3 (nI 0)) 60 3 = nI 0 := up_at
  have eY1 : f_17 (nI n) I W = ((f_72 (up (up I1 60 2 (nI n)) 60 3 (nI 0)) W).bind fun q4 => lb_17_1 (0 : Int32) (0 : Int32) q4.1 q4.2) := by
    have g213 : f_213 (nI n) (I1 60 1) = some (nI n) := by
      rw [a5 60 (by decide), h60, f_213, if_neg (fun z => by have := (ltN (by omega) (by omega)).mp z; omega)]
      rfl
    rw [f_17, a1, Option.bind_some, f_71, g213, Option.bind_some]
    show (((f_72 (up (up I1 60 2 (nI n)) 60 3 (nI 0)) W).bind fun q4 => some (q4.1, q4.2)).bind fun q2 => lb_17_1 (0 : Int32) (0 : Int32) q2.1 q2.2) = _
    cases f_72 (up (up I1 60 2 (nI n)) 60 3 (nI 0)) W with
    | none => rfl
    | some q => rfl
  generalize up (up I1 60 2 (nI n)) 60 3 (nI 0) = I2 at f1 s1 q2 q3 eY1
  have w : ∀ a, a < 60 → I2 a = I a := fun a ha => f1 a (by simp; omega)
  have tc : TC (fun i => (K 102 i).toNatClampNeg) n I2 := ⟨by omega, q2, fun i hi => by
    obtain ⟨b, b1, b2, b3⟩ := hT i (by omega)
    have e : (K 102 i).toNatClampNeg = b := by rw [b2]; exact clN (by omega)
    dsimp only
    rw [e, f1 61 (by decide)]
    exact ⟨b1, b3⟩⟩
  have wz : WZ I2 := fun x hx => by rw [w _ (by omega), w _ (by omega)]; exact hWZ x hx
  have wc : WC I2 := fun x h1 h2 => by rw [w _ (by omega)]; exact hWC x h1 h2
  have tn : TN I2 := fun i hi => by rw [w 53 (by decide), w 54 (by decide), w 55 (by decide)]; exact hTN i hi
  obtain ⟨s, e, kd, v, sg, W', I3, b1, b2, b3, b4, b5⟩ := f72_s W tc wz q3 (Nat.zero_le n)
  obtain ⟨c1, c2⟩ := b2.tok (fun x hx => (tc.2.2 x hx).1) (Nat.zero_le n)
  have u1 : Uk 97 [11, 12, 13, 15, 16, 23, 24, 25, 26, 27, 28, 29] K (up (up (up (up (up (up (up (up (up (up (up (up K 97 11 (nI 0)) 97 13 (-1)) 97 12 (nI 0)) 97 15 (nI n)) 97 16 (nI 0)) 97 23 (nI 27)) 97 24 (nI 3)) 97 25 (nI 0)) 97 26 (nI 0)) 97 27 (nI 0)) 97 28 (nI 0)) 97 29 (nI 0)) := ((((((((((((Uk.refl _ _ _).up (by decide)).up (by decide)).up (by decide)).up (by decide)).up (by decide)).up (by decide)).up (by decide)).up (by decide)).up (by decide)).up (by decide)).up (by decide)).up (by decide)
  have eX1 : lb_162_2 (nI n) (1 : Int32) K J = ((f_140 (up (up (up (up (up (up (up (up (up (up (up (up K 97 11 (nI 0)) 97 13 (-1)) 97 12 (nI 0)) 97 15 (nI n)) 97 16 (nI 0)) 97 23 (nI 27)) 97 24 (nI 3)) 97 25 (nI 0)) 97 26 (nI 0)) 97 27 (nI 0)) 97 28 (nI 0)) 97 29 (nI 0)) J).bind fun q15 => lb_162_4 (nI n) q15.1 q15.2) := by
    have g132 : f_132 (1 : Int32) (1 : Int32) K = some (1, K) := by
      rw [f_132, k0, if_pos (show nI 0 = 0 from rfl), if_neg (by decide), lb_132_1, k0, if_pos (show nI 0 = 0 from rfl)]
      rfl
    rw [lb_162_2, g132, Option.bind_some, if_neg (show ¬ (1 : Int32) = 0 by decide)]
    rfl
  have r11 : (up (up (up (up (up (up (up (up (up (up (up (up K 97 11 (nI 0)) 97 13 (-1)) 97 12 (nI 0)) 97 15 (nI n)) 97 16 (nI 0)) 97 23 (nI 27)) 97 24 (nI 3)) 97 25 (nI 0)) 97 26 (nI 0)) 97 27 (nI 0)) 97 28 (nI 0)) 97 29 (nI 0)) 97 11 = nI 0 := by simp [up_eq]
  have r12 : (up (up (up (up (up (up (up (up (up (up (up (up K 97 11 (nI 0)) 97 13 (-1)) 97 12 (nI 0)) 97 15 (nI n)) 97 16 (nI 0)) 97 23 (nI 27)) 97 24 (nI 3)) 97 25 (nI 0)) 97 26 (nI 0)) 97 27 (nI 0)) 97 28 (nI 0)) 97 29 (nI 0)) 97 12 = nI 0 := by simp [up_eq]
  have r13 : (up (up (up (up (up (up (up (up (up (up (up (up K 97 11 (nI 0)) 97 13 (-1)) 97 12 (nI 0)) 97 15 (nI n)) 97 16 (nI 0)) 97 23 (nI 27)) 97 24 (nI 3)) 97 25 (nI 0)) 97 26 (nI 0)) 97 27 (nI 0)) 97 28 (nI 0)) 97 29 (nI 0)) 97 13 = -1 := by simp [up_eq]
  have r15 : (up (up (up (up (up (up (up (up (up (up (up (up K 97 11 (nI 0)) 97 13 (-1)) 97 12 (nI 0)) 97 15 (nI n)) 97 16 (nI 0)) 97 23 (nI 27)) 97 24 (nI 3)) 97 25 (nI 0)) 97 26 (nI 0)) 97 27 (nI 0)) 97 28 (nI 0)) 97 29 (nI 0)) 97 15 = nI n := by simp [up_eq]
  have r16 : (up (up (up (up (up (up (up (up (up (up (up (up K 97 11 (nI 0)) 97 13 (-1)) 97 12 (nI 0)) 97 15 (nI n)) 97 16 (nI 0)) 97 23 (nI 27)) 97 24 (nI 3)) 97 25 (nI 0)) 97 26 (nI 0)) 97 27 (nI 0)) 97 28 (nI 0)) 97 29 (nI 0)) 97 16 = nI 0 := by simp [up_eq]
  have rf : ∀ i, i < 4 → (up (up (up (up (up (up (up (up (up (up (up (up K 97 11 (nI 0)) 97 13 (-1)) 97 12 (nI 0)) 97 15 (nI n)) 97 16 (nI 0)) 97 23 (nI 27)) 97 24 (nI 3)) 97 25 (nI 0)) 97 26 (nI 0)) 97 27 (nI 0)) 97 28 (nI 0)) 97 29 (nI 0)) 97 (fld i) = nI ([27, 3, 0, 0].getD i 0) := fun i hi => by
    have : i = 0 ∨ i = 1 ∨ i = 2 ∨ i = 3 := by omega
    rcases this with rfl | rfl | rfl | rfl <;> simp [up_eq, fld]
  have r25 : (up (up (up (up (up (up (up (up (up (up (up (up K 97 11 (nI 0)) 97 13 (-1)) 97 12 (nI 0)) 97 15 (nI n)) 97 16 (nI 0)) 97 23 (nI 27)) 97 24 (nI 3)) 97 25 (nI 0)) 97 26 (nI 0)) 97 27 (nI 0)) 97 28 (nI 0)) 97 29 (nI 0)) 97 25 = nI 0 := by simp [up_eq]
  have r28 : (up (up (up (up (up (up (up (up (up (up (up (up K 97 11 (nI 0)) 97 13 (-1)) 97 12 (nI 0)) 97 15 (nI n)) 97 16 (nI 0)) 97 23 (nI 27)) 97 24 (nI 3)) 97 25 (nI 0)) 97 26 (nI 0)) 97 27 (nI 0)) 97 28 (nI 0)) 97 29 (nI 0)) 97 28 = nI 0 := by simp [up_eq]
  have r29 : (up (up (up (up (up (up (up (up (up (up (up (up K 97 11 (nI 0)) 97 13 (-1)) 97 12 (nI 0)) 97 15 (nI n)) 97 16 (nI 0)) 97 23 (nI 27)) 97 24 (nI 3)) 97 25 (nI 0)) 97 26 (nI 0)) 97 27 (nI 0)) 97 28 (nI 0)) 97 29 (nI 0)) 97 29 = nI 0 := by simp [up_eq]
  generalize up (up (up (up (up (up (up (up (up (up (up (up K 97 11 (nI 0)) 97 13 (-1)) 97 12 (nI 0)) 97 15 (nI n)) 97 16 (nI 0)) 97 23 (nI 27)) 97 24 (nI 3)) 97 25 (nI 0)) 97 26 (nI 0)) 97 27 (nI 0)) 97 28 (nI 0)) 97 29 (nI 0) = K1 at u1 eX1 r11 r12 r13 r15 r16 rf r25 r28 r29
  have tm : TM (fun i => (K 102 i).toNatClampNeg) n K1 := ⟨by omega, r15, fun i hi => by
    obtain ⟨b, b1, b2, b3⟩ := hT i (by omega)
    have e : (K 102 i).toNatClampNeg = b := by rw [b2]; exact clN (by omega)
    dsimp only
    rw [e, u1.1 102 (by decide)]
    exact ⟨b1, b2⟩⟩
  obtain ⟨K2, J2, d1, d2, d3, d4⟩ := f140_s (J := J) tm r16 (Nat.zero_le n) b2
  have tn0 : ∀ i, i < 4 → lo i ≤ [27, 3, 0, 0].getD i 0 ∧ [27, 3, 0, 0].getD i 0 ≤ hi i ∧ fld i ∉ [16, 17, 18, 19, 20, 21] := by decide
  have lb : LB (fun i => (K 102 i).toNatClampNeg) n s e kd v sg W' I3 K2 J2 := by
    refine ⟨tc.u b5 (by decide), wz.u b5, fun x h1 h2 => by rw [b5.1 x (by simp; omega)]; exact wc x h1 h2, fun i hi => by rw [b5.1 53 (by decide), b5.1 54 (by decide), b5.1 55 (by decide)]; exact tn i hi, b3, tm.u d3 (by decide), d2, by rw [d3.2 12 (by decide)]; exact r12, c1, b2.en, ⟨fun i => [27, 3, 0, 0].getD i 0, fun _ => 0, fun i hi => ?_, ?_⟩, 0, fun _ => [], fun _ => 0, fun _ => 0, fun _ => 0, fun _ => 0, ?_⟩
    · obtain ⟨x1, x2, x3⟩ := tn0 i hi
      refine ⟨?_, ?_, (show (0 : Nat) < 2 by decide), x1, x2, ?_⟩
      · rw [b5.1 63 (by decide), s1 63 (by decide), (a2 i hi).1]; exact (hTN i hi).2.2
      · rw [b5.1 64 (by decide), s1 64 (by decide), (a2 i hi).2]
      · rw [d3.2 _ x3]; exact rf i hi
    · rw [d3.2 28 (by decide)]; exact r28
    · refine ⟨by decide, rfl, rfl, Nat.zero_le _, Nat.zero_le _, ?_, ?_, ?_, ?_, fun d hd => absurd hd (Nat.not_lt_zero _)⟩
      · rw [b5.1 62 (by decide), s1 62 (by decide)]; exact a3
      · rw [b5.1 67 (by decide), s1 67 (by decide)]; exact a4
      · rw [d3.2 25 (by decide)]; exact r25
      · rw [d3.2 29 (by decide)]; exact r29
  have t1 := c1.1
  have t2 := c1.2.1
  have fin := lines_s (n + 1) s e kd v sg W' 0 FU FU I3 K2 J2 lb (by omega) (Nat.zero_le _) (Nat.le_of_lt (FU_big (by omega))) (Nat.le_of_lt (FU_big (by omega)))
  have eY : f_17 (nI n) I W = fx (fun _ _ _ _ => none) bd_17_1 FU (nI 0) (nI 0) I3 W' := by
    rw [eY1, b1, Option.bind_some]
    rfl
  have eX : lb_162_2 (nI n) (1 : Int32) K J = fx (fun _ _ _ => none) bd_162_4 FU (nI n) K2 J2 := by
    rw [eX1, d1, Option.bind_some]
    rfl
  rw [eY, eX]
  refine ⟨I3, K2, J2, f1.trans (b5.1.mono (by decide)), u1.1.trans d3.1, fun k hk => ?_, d4, ?_, ?_, ?_, fin⟩
  · rw [d3.2 k (fun z => hk (by revert z; simp; omega)), u1.2 k (fun z => hk (by revert z; simp; omega))]
  · rw [d3.2 11 (by decide)]; exact r11
  · rw [d3.2 12 (by decide)]; exact r12
  · rw [d3.2 13 (by decide)]; exact r13
