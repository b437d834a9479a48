/-! undo, see, image, restore -/
section UN
variable {Z I : Nat → Nat → Int32}
theorem undo_s (h : Inv Z I) : ∃ q I1 I2, f_105 I = some (q, I1) ∧ f_200 I1 = some (q, I2) ∧ Inv Z I2 := by
  obtain ⟨o, C, H, N, M, w, K, S, Y, L, h1, h2, h3, h4, ⟨A, PH, MH, cd, a1, a2, ⟨b1, b2, b3, b4, b5⟩, a4⟩, h6⟩ := h
  have hC := h1.ch
  obtain ⟨c1, c2, c3, c4⟩ := h1.ch
  cases A with
  | zero =>
    refine ⟨-nI 1, I, up I 97 0 (nI 0), ?_, ?_, ?_⟩
    · unfold f_105
      simp (disch := omega) only [lits, a1, ltN, Nat.lt_irrefl, if_false]
    · have e : (up I 97 0 (nI 0)) 97 52 = nI 0 := by rw [up_nk (by decide)]; exact a2
      unfold f_200
      simp only [lits, e, if_true]
    · exact Inv.keep ⟨o, C, H, N, M, w, K, S, Y, L, h1, h2, h3, h4, ⟨0, PH, MH, cd, a1, a2, ⟨b1, b2, b3, b4, b5⟩, a4⟩, h6⟩ ((Keep.refl I).up0 _)
  | succ A =>
    obtain ⟨e1, e2, e3, e4, e5, e6⟩ := b5 A (by omega)
    generalize hq : cd A = q at e1 e2 e5 e6
    obtain ⟨I1, r1, r2, r3, r4, r5⟩ := f67_s hC e1 h1.dt
    have fr59 : Fr [59] I1 (cpyf I1 88 59 60) := fun a ha => cpyf_ne (fun e => ha (by rw [e]; decide))
    obtain ⟨z, _⟩ := cdn_lt c2 e1
    have nl : ∀ p, p < C → np C H q.1 q.2.1 q.2.2.1 q.2.2.2 q.2.2.2 p < C := fun p hp => np_lt c1 c3 e1.2.2.2 e1.2.2.2 hp
    obtain ⟨I2, s1, s2, s3, s4⟩ := f64_in (P := PH A) (M0 := MH A) hC e1 (fun p hp => (b4 A p (by omega) hp).1) (fun c hc => by have := (b4 A c (by omega) hc).2; omega) C 0 FU (cpyf I1 88 59 60) (by omega) (FU_big (by omega)) (r2.fr fr59 (by decide) (by decide) (by decide) (by decide)) (fun x hx => by rw [fr59 78 (by decide)]; exact r3 x hx) (fun x hx => by
      have := nl x hx
      rw [cpyf_at (by omega), r5 88 (by decide), (b2 _ this).1, e5 x hx]) (fun x hx => absurd hx (Nat.not_lt_zero _)) (fun c hc => by
      rw [cpyf_ne (by decide), r5 90 (by decide), (b3 c hc).1, e6 c hc, ad, Nat.sub_zero])
    have frB : Fr [59, 74, 78, 88, 90] I I2 := ((r5.mono (by decide)).trans (fr59.mono (by decide))).trans (s4.mono (by decide))
    have e74 : I2 74 4 = I 74 4 ∧ I2 74 5 = I 74 5 := by
      rw [s4 74 (by decide), cpyf_ne (by decide), r2.1.1, r2.1.2.1, h1.dt.1, h1.dt.2.1]
      exact ⟨rfl, rfl⟩
    have e87 : I2 87 4 = nI (A + 1) := by rw [frB 87 (by decide)]; exact a1
    have frC : Fr [59, 74, 78, 87, 88, 90] I (up I2 87 4 (nI A)) := (frB.mono (by decide)).up (by decide)
    have k1 : KeepT I (up I2 87 4 (nI A)) := ⟨frC.mono (by decide), by rw [up_ne (by decide)]; exact e74.1, by rw [up_ne (by decide)]; exact e74.2, fun k _ _ _ _ => by rw [frC 97 (by decide)]⟩
    have m52 : (up I2 87 4 (nI A)) 97 52 = nI (A + 1) := by rw [frC 97 (by decide)]; exact a2
    have h1' := k1.set h1
    have x52 : (up (up (up I2 87 4 (nI A)) 97 0 (nI 0)) 97 52 (nI A)) 97 52 = nI A := up_at
    have x97 : ∀ k, k ≠ 0 → k ≠ 52 → (up (up (up I2 87 4 (nI A)) 97 0 (nI 0)) 97 52 (nI A)) 97 k = I 97 k := fun k q0 q5 => by
      rw [up_nk q5, up_nk q0, frC 97 (by decide)]
    obtain ⟨I3, t1, t2, t3⟩ := f200_2 (P := PH A) (M0 := MH A) c4 (show A < 20 by omega) C 0 FU (up (up (up I2 87 4 (nI A)) 97 0 (nI 0)) 97 52 (nI A)) (by omega) (FU_big (by omega)) (by rw [x97 1 (by decide) (by decide)]; exact h1.m1) x52 (fun x hx => by
      rw [up_ne (by decide), up_ne (by decide), frC 125 (by decide), up_ne (by decide), up_ne (by decide), frC 126 (by decide)]
      exact ⟨e3 x hx, e4 x hx⟩) (fun x hx => absurd hx (Nat.not_lt_zero _))
    have k2 : KeepT (up I2 87 4 (nI A)) I3 := by
      refine ⟨((((Fr.refl _ _).up (by decide)).up (by decide)).trans (t3.mono (by decide))), ?_, ?_, fun k q0 q5 _ _ => ?_⟩
      · rw [t3 74 (by decide), up_ne (by decide), up_ne (by decide)]
      · rw [t3 74 (by decide), up_ne (by decide), up_ne (by decide)]
      · rw [t3 97 (by decide), up_nk q5, up_nk q0]
    have far : ∀ a, a ∉ [59, 74, 78, 87, 88, 90, 97, 122, 124] → I3 a = I a := fun a ha => by
      rw [t3 a (fun w => ha (by revert w; simp; omega)), up_ne (fun w => ha (by rw [w]; decide)), up_ne (fun w => ha (by rw [w]; decide)), frC a (fun w => ha (by revert w; simp; omega))]
    refine ⟨nI A, up I2 87 4 (nI A), I3, ?_, ?_, (k1.trans k2).inv o h1 h2 h3 ?_ ?_ ?_⟩
    · have g64 : f_64 I = some I2 := by
        unfold f_64
        have w2 : I 91 A = nI (cdn q) := e2
        simp (disch := omega) only [a1, lits, subN, Nat.add_sub_cancel, atN, w2, r1, Option.bind_some]
        exact s1
      have p0 : 0 < A + 1 := by omega
      unfold f_105
      simp (disch := omega) only [lits, a1, ltN, p0, if_true, g64, Option.bind_some, e87, subN, Nat.add_sub_cancel, up_at]
    · have y52 : (up (up I2 87 4 (nI A)) 97 0 (nI 0)) 97 52 = nI (A + 1) := by rw [up_nk (by decide)]; exact m52
      have n0 : ¬ A + 1 = 0 := by omega
      unfold f_200
      simp (disch := omega) only [lits, y52, eqN, n0, if_false, subN, Nat.add_sub_cancel]
      exact t1
    · exact h4.fr (far 58 (by decide)) (far 103 (by decide)) (by rw [t3 97 (by decide), x97 13 (by decide) (by decide)])
    · refine ⟨A, PH, MH, cd, ?_, ?_, ⟨by omega, fun p hp => ?_, fun c hc => ?_, fun j p hj hp => b4 j p (by omega) hp, fun j hj => ?_⟩, fun p hp => by rw [far 89 (by decide), far 123 (by decide)]; exact a4 p hp⟩
      · rw [t3 87 (by decide), up_ne (by decide), up_ne (by decide), up_at]
      · rw [t3 97 (by decide), x52]
      · refine ⟨?_, (t2 p hp).1⟩
        rw [t3 88 (by decide), up_ne (by decide), up_ne (by decide), up_ne (by decide)]
        exact s2 p hp
      · refine ⟨?_, (t2 c hc).2⟩
        rw [t3 90 (by decide), up_ne (by decide), up_ne (by decide), up_ne (by decide)]
        exact s3 c hc
      · obtain ⟨g1, g2, g3, g4, g5, g6⟩ := b5 j (by omega)
        exact ⟨g1, by rw [far 91 (by decide)]; exact g2, fun p hp => by rw [far 125 (by decide)]; exact g3 p hp, fun c hc => by rw [far 126 (by decide)]; exact g4 c hc, g5, g6⟩
    · exact h6.fr c4 (by rw [far 58 (by decide)]) (by rw [far 92 (by decide)]) (by rw [t3 97 (by decide), x97 59 (by decide) (by decide)]) (by rw [t3 97 (by decide), x97 60 (by decide) (by decide)]) (fun a ha => far a (by rcases ha with rfl | rfl | rfl | rfl | rfl | rfl | rfl | rfl | rfl <;> decide))
theorem see_s (h : Inv Z I) : ∃ I1 I2, f_108 I = some I1 ∧ f_203 I1 = some I2 ∧ Inv Z I2 := by
  obtain ⟨o, C, H, N, M, w, K, S, Y, L, h1, h2, h3, h4, ⟨A, PH, MH, cd, a1, a2, a3, a4⟩, h6⟩ := h
  have c4 := h1.ch.2.2.2
  obtain ⟨I2, r1, r2, r3⟩ := cp_134_97_122_123 (up (cpyf I 88 89 60) 97 0 (nI 0))
  have far : ∀ a, a ∉ [89, 97, 123] → I2 a = I a := fun a ha => by
    rw [r3 a (fun w => ha (by revert w; simp; omega)), up_ne (fun w => ha (by rw [w]; decide)), cpyf_ne (fun w => ha (by rw [w]; decide))]
  have e97 : ∀ k, k ≠ 0 → I2 97 k = I 97 k := fun k h0 => by rw [r3 97 (by decide), up_nk h0, cpyf_ne (by decide)]
  have kt : KeepT I I2 := ⟨fun a ha => far a (fun w => ha (by revert w; simp; omega)), by rw [far 74 (by decide)], by rw [far 74 (by decide)], fun k h0 _ _ _ => e97 k h0⟩
  refine ⟨cpyf I 88 89 60, I2, rfl, ?_, kt.inv o h1 h2 h3 ?_ ?_ ?_⟩
  · unfold f_203
    simp only [lits]
    rw [r1]
    rfl
  · exact h4.fr (far 58 (by decide)) (far 103 (by decide)) (e97 13 (by decide))
  · refine ⟨A, PH, MH, cd, by rw [far 87 (by decide)]; exact a1, by rw [e97 52 (by decide)]; exact a2, a3.same c4 (far _ (by decide)) (far _ (by decide)) (far _ (by decide)) (far _ (by decide)) (far _ (by decide)) (far _ (by decide)) (far _ (by decide)), fun p hp => ?_⟩
    rw [r3 89 (by decide), up_ne (by decide), cpyf_at (by omega), r2 p (by omega), up_ne (by decide), cpyf_ne (by decide), (a3.2.1 p hp).1, (a3.2.1 p hp).2]
  · exact h6.fr c4 (by rw [far 58 (by decide)]) (by rw [far 92 (by decide)]) (e97 59 (by decide)) (e97 60 (by decide)) (fun a ha => far a (by rcases ha with rfl | rfl | rfl | rfl | rfl | rfl | rfl | rfl | rfl <;> decide))
theorem image_m (I1 : Nat → Nat → Int32) : ∃ J5, f_208 I1 = some J5 ∧ (∀ a, a ∉ [97, 128, 129, 130, 131, 132] → J5 a = I1 a) ∧ (∀ k, k ≠ 0 → k ≠ 59 → k ≠ 60 → J5 97 k = I1 97 k) ∧ J5 97 59 = 1 ∧ J5 97 60 = I1 97 52 ∧ (∀ i, i < 60 → J5 128 i = I1 122 i) ∧ (∀ i, i < 60 → J5 129 i = I1 123 i) ∧ (∀ i, i < 60 → J5 130 i = I1 124 i) ∧ (∀ i, i < 1200 → J5 131 i = I1 125 i) ∧ (∀ i, i < 1200 → J5 132 i = I1 126 i) := by
  obtain ⟨W, hW⟩ : ∃ W, W = up (up (up I1 97 0 (0 : Int32)) 97 59 (1 : Int32)) 97 60 ((up (up I1 97 0 (0 : Int32)) 97 59 (1 : Int32)) 97 52) := ⟨_, rfl⟩
  have hw : ∀ a, a ≠ 97 → W a = I1 a := fun a ha => by rw [hW, up_ne ha, up_ne ha, up_ne ha]
  have w97 : (∀ k, k ≠ 0 → k ≠ 59 → k ≠ 60 → W 97 k = I1 97 k) ∧ W 97 59 = 1 ∧ W 97 60 = I1 97 52 := by
    refine ⟨fun k h0 h5 h6 => ?_, ?_, ?_⟩
    · rw [hW, up_nk h6, up_nk h5, up_nk h0]
    · rw [hW, up_nk (by decide), up_at]
    · rw [hW, up_at, up_nk (by decide), up_nk (by decide)]
  obtain ⟨J1, r1, r2, r3⟩ := cp_134_97_122_128 W
  obtain ⟨J2, s1, s2, s3⟩ := cp_134_97_123_129 J1
  obtain ⟨J3, t1, t2, t3⟩ := cp_134_97_124_130 J2
  obtain ⟨J4, u1, u2, u3⟩ := cp_134_97_125_131 J3
  obtain ⟨J5, v1, v2, v3⟩ := cp_134_97_126_132 J4
  have e97 : J5 97 = W 97 := by
    rw [v3 97 (by decide), u3 97 (by decide), t3 97 (by decide), s3 97 (by decide), r3 97 (by decide)]
  refine ⟨J5, ?_, fun a ha => ?_, ?_, ?_, ?_, fun i hi => ?_, fun i hi => ?_, fun i hi => ?_, fun i hi => ?_, fun i hi => ?_⟩
  · rw [f_208, ← hW]
    rw [r1, Option.bind_some, s1, Option.bind_some, t1, Option.bind_some, u1, Option.bind_some, v1, Option.bind_some]
  · simp only [List.mem_cons, List.not_mem_nil, or_false, not_or] at ha
    rw [v3 a (by simp only [List.mem_cons, List.not_mem_nil, or_false]; omega), u3 a (by simp only [List.mem_cons, List.not_mem_nil, or_false]; omega), t3 a (by simp only [List.mem_cons, List.not_mem_nil, or_false]; omega), s3 a (by simp only [List.mem_cons, List.not_mem_nil, or_false]; omega), r3 a (by simp only [List.mem_cons, List.not_mem_nil, or_false]; omega), hw a (by omega)]
  · rw [e97]; exact w97.1
  · rw [e97]; exact w97.2.1
  · rw [e97]; exact w97.2.2
  · rw [v3 128 (by decide), u3 128 (by decide), t3 128 (by decide), s3 128 (by decide), r2 i hi, hw 122 (by decide)]
  · rw [v3 129 (by decide), u3 129 (by decide), t3 129 (by decide), s2 i hi, r3 123 (by decide), hw 123 (by decide)]
  · rw [v3 130 (by decide), u3 130 (by decide), t2 i hi, s3 124 (by decide), r3 124 (by decide), hw 124 (by decide)]
  · rw [v3 131 (by decide), u2 i hi, t3 125 (by decide), s3 125 (by decide), r3 125 (by decide), hw 125 (by decide)]
  · rw [v2 i hi, u3 126 (by decide), t3 126 (by decide), s3 126 (by decide), r3 126 (by decide), hw 126 (by decide)]
theorem restore_m (I1 : Nat → Nat → Int32) (h59 : I1 97 59 = nI 1) : ∃ J5, f_209 I1 = some (1, J5) ∧ (∀ a, a ∉ [97, 122, 123, 124, 125, 126] → J5 a = I1 a) ∧ (∀ k, k ≠ 0 → k ≠ 52 → J5 97 k = I1 97 k) ∧ J5 97 52 = I1 97 60 ∧ (∀ i, i < 60 → J5 122 i = I1 128 i) ∧ (∀ i, i < 60 → J5 123 i = I1 129 i) ∧ (∀ i, i < 60 → J5 124 i = I1 130 i) ∧ (∀ i, i < 1200 → J5 125 i = I1 131 i) ∧ (∀ i, i < 1200 → J5 126 i = I1 132 i) := by
  obtain ⟨V, hV⟩ : ∃ V, V = up I1 97 0 (0 : Int32) := ⟨_, rfl⟩
  obtain ⟨W, hW⟩ : ∃ W, W = up V 97 52 (V 97 60) := ⟨_, rfl⟩
  have v59 : ¬ V 97 59 = 0 := by
    rw [hV, up_nk (by decide), h59]
    decide
  have hw : ∀ a, a ≠ 97 → W a = I1 a := fun a ha => by rw [hW, up_ne ha, hV, up_ne ha]
  have w97 : (∀ k, k ≠ 0 → k ≠ 52 → W 97 k = I1 97 k) ∧ W 97 52 = I1 97 60 := by
    refine ⟨fun k h0 h5 => ?_, ?_⟩
    · rw [hW, up_nk h5, hV, up_nk h0]
    · rw [hW, up_at, hV, up_nk (by decide)]
  obtain ⟨J1, r1, r2, r3⟩ := cp_134_97_128_122 W
  obtain ⟨J2, s1, s2, s3⟩ := cp_134_97_129_123 J1
  obtain ⟨J3, t1, t2, t3⟩ := cp_134_97_130_124 J2
  obtain ⟨J4, u1, u2, u3⟩ := cp_134_97_131_125 J3
  obtain ⟨J5, v1, v2, v3⟩ := cp_134_97_132_126 J4
  have e97 : J5 97 = W 97 := by
    rw [v3 97 (by decide), u3 97 (by decide), t3 97 (by decide), s3 97 (by decide), r3 97 (by decide)]
  refine ⟨J5, ?_, fun a ha => ?_, ?_, ?_, fun i hi => ?_, fun i hi => ?_, fun i hi => ?_, fun i hi => ?_, fun i hi => ?_⟩
  · rw [f_209, ← hV]
    dsimp only
    rw [if_neg v59, ← hW, r1, Option.bind_some, s1, Option.bind_some, t1, Option.bind_some, u1, Option.bind_some, v1, Option.bind_some]
  · simp only [List.mem_cons, List.not_mem_nil, or_false, not_or] at ha
    rw [v3 a (by simp only [List.mem_cons, List.not_mem_nil, or_false]; omega), u3 a (by simp only [List.mem_cons, List.not_mem_nil, or_false]; omega), t3 a (by simp only [List.mem_cons, List.not_mem_nil, or_false]; omega), s3 a (by simp only [List.mem_cons, List.not_mem_nil, or_false]; omega), r3 a (by simp only [List.mem_cons, List.not_mem_nil, or_false]; omega), hw a (by omega)]
  · rw [e97]; exact w97.1
  · rw [e97]; exact w97.2
  · rw [v3 122 (by decide), u3 122 (by decide), t3 122 (by decide), s3 122 (by decide), r2 i hi, hw 128 (by decide)]
  · rw [v3 123 (by decide), u3 123 (by decide), t3 123 (by decide), s2 i hi, r3 129 (by decide), hw 129 (by decide)]
  · rw [v3 124 (by decide), u3 124 (by decide), t2 i hi, s3 130 (by decide), r3 130 (by decide), hw 130 (by decide)]
  · rw [v3 125 (by decide), u2 i hi, t3 131 (by decide), s3 131 (by decide), r3 131 (by decide), hw 131 (by decide)]
  · rw [v2 i hi, u3 132 (by decide), t3 132 (by decide), s3 132 (by decide), r3 132 (by decide), hw 132 (by decide)]
theorem image_s (h : Inv Z I) : ∃ I1 I2, f_112 I = some I1 ∧ f_208 I1 = some I2 ∧ Inv Z I2 := by
  obtain ⟨o, C, H, N, M, w, K, S, Y, L, h1, h2, h3, h4, ⟨A, PH, MH, cd, a1, a2, a3, a4⟩, h6⟩ := h
  have c4 := h1.ch.2.2.2
  obtain ⟨I1, hI1⟩ : ∃ I1, I1 = up (up (cpyf (cpyf (cpyf (cpyf I 88 93 60) 89 94 60) 90 95 60) 91 96 20) 92 4 (I 87 4)) 58 9 (nI 1) := ⟨_, rfl⟩
  have far1 : ∀ a, a ∉ [58, 92, 93, 94, 95, 96] → I1 a = I a := fun a ha => by
    rw [hI1, up_ne (fun w => ha (by rw [w]; decide)), up_ne (fun w => ha (by rw [w]; decide)), cpyf_ne (fun w => ha (by rw [w]; decide)), cpyf_ne (fun w => ha (by rw [w]; decide)), cpyf_ne (fun w => ha (by rw [w]; decide)), cpyf_ne (fun w => ha (by rw [w]; decide))]
  have g1 : f_112 I = some I1 := by
    unfold f_112 f_61
    simp (disch := omega) only [lits, Option.bind_some, cpyf_ne, hI1]
  have e93 : ∀ p, p < 60 → I1 93 p = I 88 p := fun p hp => by
    rw [hI1, up_ne (by decide), up_ne (by decide), cpyf_ne (by decide), cpyf_ne (by decide), cpyf_ne (by decide), cpyf_at hp]
  have e94 : ∀ p, p < 60 → I1 94 p = I 89 p := fun p hp => by
    rw [hI1, up_ne (by decide), up_ne (by decide), cpyf_ne (by decide), cpyf_ne (by decide), cpyf_at hp, cpyf_ne (by decide)]
  have e95 : ∀ p, p < 60 → I1 95 p = I 90 p := fun p hp => by
    rw [hI1, up_ne (by decide), up_ne (by decide), cpyf_ne (by decide), cpyf_at hp, cpyf_ne (by decide), cpyf_ne (by decide)]
  have e96 : ∀ p, p < 20 → I1 96 p = I 91 p := fun p hp => by
    rw [hI1, up_ne (by decide), up_ne (by decide), cpyf_at hp, cpyf_ne (by decide), cpyf_ne (by decide), cpyf_ne (by decide)]
  have e92 : I1 92 4 = I 87 4 := by rw [hI1, up_ne (by decide), up_at]
  have e58 : I1 58 9 = nI 1 ∧ ∀ k, k ≠ 9 → I1 58 k = I 58 k := by
    refine ⟨by rw [hI1, up_at], fun k hk => ?_⟩
    rw [hI1, up_nk hk, up_ne (by decide), cpyf_ne (by decide), cpyf_ne (by decide), cpyf_ne (by decide), cpyf_ne (by decide)]
  clear hI1
  obtain ⟨J5, jj, far, j97, j59, j60, j128, j129, j130, j131, j132⟩ := image_m I1
  have k97 : ∀ k, k ≠ 0 → k ≠ 59 → k ≠ 60 → J5 97 k = I 97 k := fun k h0 h5 h6 => by
    rw [j97 k h0 h5 h6, far1 97 (by decide)]
  have kt : KeepT I J5 := ⟨fun a ha => by
      rw [far a (fun w => ha (by revert w; simp; omega)), far1 a (fun w => ha (by revert w; simp; omega))], by rw [far 74 (by decide), far1 74 (by decide)], by rw [far 74 (by decide), far1 74 (by decide)], fun k h0 _ h5 h6 => k97 k h0 h5 h6⟩
  have q128 : ∀ i, i < 60 → J5 128 i = I 122 i := fun i hi => by rw [j128 i hi, far1 122 (by decide)]
  have q129 : ∀ i, i < 60 → J5 129 i = I 123 i := fun i hi => by rw [j129 i hi, far1 123 (by decide)]
  have q130 : ∀ i, i < 60 → J5 130 i = I 124 i := fun i hi => by rw [j130 i hi, far1 124 (by decide)]
  have q131 : ∀ i, i < 1200 → J5 131 i = I 125 i := fun i hi => by rw [j131 i hi, far1 125 (by decide)]
  have q132 : ∀ i, i < 1200 → J5 132 i = I 126 i := fun i hi => by rw [j132 i hi, far1 126 (by decide)]
  refine ⟨I1, J5, g1, jj, kt.inv o h1 h2 h3 ?_ ?_ ?_⟩
  · refine ⟨?_, ?_, ?_⟩
    · rw [far 58 (by decide), e58.2 10 (by decide), k97 13 (by decide) (by decide) (by decide)]; exact h4.1
    · rw [far 58 (by decide), e58.2 11 (by decide), far 103 (by decide), far1 103 (by decide)]; exact h4.2.1
    · rw [far 58 (by decide), e58.2 12 (by decide), far 103 (by decide), far1 103 (by decide)]; exact h4.2.2
  · exact TblP.fr ⟨A, PH, MH, cd, a1, a2, a3, a4⟩ c4 (by rw [far 87 (by decide), far1 87 (by decide)]) (k97 52 (by decide) (by decide) (by decide)) (fun a ha => by
      rw [far a (by rcases ha with rfl | rfl | rfl | rfl | rfl | rfl | rfl | rfl | rfl <;> decide), far1 a (by rcases ha with rfl | rfl | rfl | rfl | rfl | rfl | rfl | rfl | rfl <;> decide)])
  · refine Or.inr ⟨by rw [far 58 (by decide)]; exact e58.1, j59, A, PH, MH, cd, ?_, ?_, ?_, ?_⟩
    · rw [far 92 (by decide), e92]; exact a1
    · rw [j60, far1 97 (by decide)]; exact a2
    · refine a3.of c4 (fun p hp => ?_) (fun p hp => ?_) (fun j hj => ?_) (fun p hp => q128 p (by omega)) (fun p hp => q130 p (by omega)) q131 q132
      · rw [far 93 (by decide)]; exact e93 p (by omega)
      · rw [far 95 (by decide)]; exact e95 p (by omega)
      · rw [far 96 (by decide)]; exact e96 j hj
    · intro p hp
      rw [far 94 (by decide), e94 p (by omega), q129 p (by omega)]
      exact a4 p hp
theorem restore_s (h : Inv Z I) : ∃ q I1 I2, f_113 I = some (q, I1) ∧ f_209 I1 = some (q, I2) ∧ Inv Z I2 := by
  have hh := h
  obtain ⟨o, C, H, N, M, w, K, S, Y, L, h1, h2, h3, h4, h5, h6⟩ := h
  have c4 := h1.ch.2.2.2
  rcases h6 with ⟨g1, g2⟩ | ⟨g1, g2, A, PH, MH, cd, a1, a2, a3, a4⟩
  · refine ⟨nI 0, I, up I 97 0 (nI 0), ?_, ?_, hh.keep ((Keep.refl I).up0 _)⟩
    · unfold f_113 lb_113_1
      simp only [lits, g1, if_true, true_or]
    · have e : (up I 97 0 (nI 0)) 97 59 = nI 0 := by rw [up_nk (by decide)]; exact g2
      unfold f_209
      simp only [lits, e, if_true]
  · obtain ⟨I1, hI1⟩ : ∃ I1, I1 = up (cpyf (cpyf (cpyf (cpyf I 93 88 60) 94 89 60) 95 90 60) 96 91 20) 87 4 (I 92 4) := ⟨_, rfl⟩
    have far1 : ∀ a, a ∉ [87, 88, 89, 90, 91] → I1 a = I a := fun a ha => by
      rw [hI1, up_ne (fun w => ha (by rw [w]; decide)), cpyf_ne (fun w => ha (by rw [w]; decide)), cpyf_ne (fun w => ha (by rw [w]; decide)), cpyf_ne (fun w => ha (by rw [w]; decide)), cpyf_ne (fun w => ha (by rw [w]; decide))]
    have e88 : ∀ p, p < 60 → I1 88 p = I 93 p := fun p hp => by
      rw [hI1, up_ne (by decide), cpyf_ne (by decide), cpyf_ne (by decide), cpyf_ne (by decide), cpyf_at hp]
    have e89 : ∀ p, p < 60 → I1 89 p = I 94 p := fun p hp => by
      rw [hI1, up_ne (by decide), cpyf_ne (by decide), cpyf_ne (by decide), cpyf_at hp, cpyf_ne (by decide)]
    have e90 : ∀ p, p < 60 → I1 90 p = I 95 p := fun p hp => by
      rw [hI1, up_ne (by decide), cpyf_ne (by decide), cpyf_at hp, cpyf_ne (by decide), cpyf_ne (by decide)]
    have e91 : ∀ p, p < 20 → I1 91 p = I 96 p := fun p hp => by
      rw [hI1, up_ne (by decide), cpyf_at hp, cpyf_ne (by decide), cpyf_ne (by decide), cpyf_ne (by decide)]
    have e87 : I1 87 4 = I 92 4 := by rw [hI1, up_at]
    have gg : f_61_87_92 I = some I1 := by
      unfold f_61_87_92
      simp (disch := omega) only [cpyf_ne, hI1]
    clear hI1
    have g58 : I1 58 9 = nI 1 := by rw [far1 58 (by decide)]; exact g1
    obtain ⟨J5, jj, far, j97, j52, j122, j123, j124, j125, j126⟩ := restore_m I1 (by rw [far1 97 (by decide)]; exact g2)
    have k97 : ∀ k, k ≠ 0 → k ≠ 52 → J5 97 k = I 97 k := fun k h0 h5 => by
      rw [j97 k h0 h5, far1 97 (by decide)]
    have kt : KeepT I J5 := ⟨fun a ha => by
        rw [far a (fun w => ha (by revert w; simp; omega)), far1 a (fun w => ha (by revert w; simp; omega))], by rw [far 74 (by decide), far1 74 (by decide)], by rw [far 74 (by decide), far1 74 (by decide)], fun k h0 h5 _ _ => k97 k h0 h5⟩
    have q122 : ∀ i, i < 60 → J5 122 i = I 128 i := fun i hi => by rw [j122 i hi, far1 128 (by decide)]
    have q123 : ∀ i, i < 60 → J5 123 i = I 129 i := fun i hi => by rw [j123 i hi, far1 129 (by decide)]
    have q124 : ∀ i, i < 60 → J5 124 i = I 130 i := fun i hi => by rw [j124 i hi, far1 130 (by decide)]
    have q125 : ∀ i, i < 1200 → J5 125 i = I 131 i := fun i hi => by rw [j125 i hi, far1 131 (by decide)]
    have q126 : ∀ i, i < 1200 → J5 126 i = I 132 i := fun i hi => by rw [j126 i hi, far1 132 (by decide)]
    refine ⟨nI 1, I1, J5, ?_, jj, kt.inv o h1 h2 h3 ?_ ?_ ?_⟩
    · unfold f_113 lb_113_1
      simp only [lits, g1, e10, if_false, gg, Option.bind_some, g58, or_true, if_true]
    · exact h4.fr (by rw [far 58 (by decide), far1 58 (by decide)]) (by rw [far 103 (by decide), far1 103 (by decide)]) (k97 13 (by decide) (by decide))
    · refine ⟨A, PH, MH, cd, ?_, ?_, ?_, ?_⟩
      · rw [far 87 (by decide), e87]; exact a1
      · rw [j52, far1 97 (by decide)]; exact a2
      · refine a3.of c4 (fun p hp => ?_) (fun p hp => ?_) (fun j hj => ?_) (fun p hp => q122 p (by omega)) (fun p hp => q124 p (by omega)) q125 q126
        · rw [far 88 (by decide)]; exact e88 p (by omega)
        · rw [far 90 (by decide)]; exact e90 p (by omega)
        · rw [far 91 (by decide)]; exact e91 j hj
      · intro p hp
        rw [far 89 (by decide), e89 p (by omega), q123 p (by omega)]
        exact a4 p hp
    · exact ImgP.fr (Or.inr ⟨g1, g2, A, PH, MH, cd, a1, a2, a3, a4⟩) c4 (by rw [far 58 (by decide), far1 58 (by decide)]) (by rw [far 92 (by decide), far1 92 (by decide)]) (k97 59 (by decide) (by decide)) (k97 60 (by decide) (by decide)) (fun a ha => by
        rw [far a (by rcases ha with rfl | rfl | rfl | rfl | rfl | rfl | rfl | rfl | rfl <;> decide), far1 a (by rcases ha with rfl | rfl | rfl | rfl | rfl | rfl | rfl | rfl | rfl <;> decide)])
end UN
