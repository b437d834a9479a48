/-! answer, undo, see, image, restore: what holds goes on -/
section UN
variable {Z I : Nat → Nat → Int32}
theorem answer_s (h : Inv Z I) (x1 x2 x3 x4 : Int32) : ∃ q I1 I2, f_104 x1 x2 x3 x4 I = some (q, I1) ∧ f_199 x1 x2 x3 x4 I1 = some (q, I2) ∧ I1 0 = I 0 ∧ Inv Z I2 := by
  obtain ⟨o, C, H, N, M, w, K, S, Y, L, h1, h2, h3, h4, ⟨A, PH, MH, cd, a1, a2, ⟨b1, b2, b3, b4, b5⟩, a4⟩, h6⟩ := h
  have hC := h1.ch
  obtain ⟨c1, c2, c3, c4⟩ := h1.ch
  have refuse : (A = 20 ∨ (f_58 x1 x2 x3 x4 I = some (nI 0) ∧ ∀ J : Nat → Nat → Int32, J 97 2 = nI H → f_193 x1 x2 x3 x4 J = some (nI 0))) → ∃ q I1 I2, f_104 x1 x2 x3 x4 I = some (q, I1) ∧ f_199 x1 x2 x3 x4 I1 = some (q, I2) ∧ I1 0 = I 0 ∧ Inv Z I2 := by
    intro hr
    have e52 : (up (up I 58 12 (I 58 12 + nI 1)) 97 0 (nI 0)) 97 52 = nI A := by rw [up_nk (by decide), up_ne (by decide)]; exact a2
    have e2 : (up (up I 58 12 (I 58 12 + nI 1)) 97 0 (nI 0)) 97 2 = nI H := by rw [up_nk (by decide), up_ne (by decide)]; exact h1.m2
    have kt : KeepT I (up (up (up I 58 12 (I 58 12 + nI 1)) 97 0 (nI 0)) 103 1 (I 103 1 + nI 1)) := by
      refine ⟨(((Fr.refl _ _).up (by decide)).up (by decide)).up (by decide), ?_, ?_, fun k k0 _ _ _ => ?_⟩
      · rw [up_ne (by decide), up_ne (by decide), up_ne (by decide)]
      · rw [up_ne (by decide), up_ne (by decide), up_ne (by decide)]
      · rw [up_ne (by decide), up_nk k0, up_ne (by decide)]
    refine ⟨-nI 1, up I 58 12 (I 58 12 + nI 1), up (up (up I 58 12 (I 58 12 + nI 1)) 97 0 (nI 0)) 103 1 (I 103 1 + nI 1), ?_, ?_, up_ne (by decide), ?_⟩
    · unfold f_104 lb_104_1
      simp (disch := omega) only [lits, a1, ltN]
      rcases hr with hr | ⟨hr, _⟩
      · rw [if_neg (by omega)]
      · rw [hr]
        simp only [Option.bind_some, if_true]
        split <;> rfl
    · have l1 : (1 : Nat) < 2 := by decide
      have e103 : (up (up I 58 12 (I 58 12 + nI 1)) 97 0 (nI 0)) 103 1 = I 103 1 := by rw [up_ne (by decide), up_ne (by decide)]
      unfold f_199 lb_199_1
      simp (disch := omega) only [lits, e52, eqN, inN, clN, l1, if_true, e103]
      rcases hr with hr | ⟨_, hr⟩
      · rw [if_pos hr]
      · rw [hr _ e2]
        simp only [Option.bind_some, if_true]
        split <;> rfl
    · refine kt.inv o h1 h2 h3 ?_ ?_ ?_
      · obtain ⟨p1, p2, p3⟩ := h4
        refine ⟨?_, ?_, ?_⟩
        · rw [up_ne (by decide), up_ne (by decide), up_nk (by decide), up_ne (by decide), up_nk (by decide), up_ne (by decide)]; exact p1
        · rw [up_ne (by decide), up_ne (by decide), up_nk (by decide), up_nk (by decide), up_ne (by decide), up_ne (by decide)]; exact p2
        · rw [up_ne (by decide), up_ne (by decide), up_at, up_at, p3]
      · exact TblP.fr ⟨A, PH, MH, cd, a1, a2, ⟨b1, b2, b3, b4, b5⟩, a4⟩ c4 (by rw [up_ne (by decide), up_ne (by decide), up_ne (by decide)]) (by rw [up_ne (by decide), up_nk (by decide), up_ne (by decide)]) (fun a ha => by
          rw [up_ne (by omega), up_ne (by omega), up_ne (by omega)])
      · exact h6.fr c4 (by rw [up_ne (by decide), up_ne (by decide), up_nk (by decide)]) (by rw [up_ne (by decide), up_ne (by decide), up_ne (by decide)]) (by rw [up_ne (by decide), up_nk (by decide), up_ne (by decide)]) (by rw [up_ne (by decide), up_nk (by decide), up_ne (by decide)]) (fun a ha => by
          rw [up_ne (by omega), up_ne (by omega), up_ne (by omega)])
  by_cases hA : A = 20
  · exact refuse (Or.inl hA)
  · rcases deal_or h1 x1 x2 x3 x4 with ⟨k, s, l, a, hk, hs, hl, ha, rfl, rfl, rfl, rfl⟩ | ⟨d1, d2⟩
    · have hq : cdv H (k, s, l, a) := ⟨hk, hs, hl, ha⟩
      obtain ⟨I1, r1, r2, r3, r4, r5, r6, r7, r8⟩ := ans_c (q := (k, s, l, a)) (P := PH A) (M0 := MH A) h1 hq (by omega) a1 (fun p hp => ⟨(b4 A p (Nat.le_refl A) hp).1, (b2 p hp).1⟩) (fun c hc => ⟨by have := (b4 A c (Nat.le_refl A) hc).2; omega, (b3 c hc).1⟩)
      have k1 : KeepT I I1 := ⟨r6.mono (by decide), r7, r8, fun k _ _ _ _ => by rw [r6 97 (by decide)]⟩
      have h1' := k1.set h1
      obtain ⟨I2, t1, t2, t3, t4, t5, t6, t7, t8⟩ := ans_m (q := (k, s, l, a)) (P := PH A) (M0 := MH A) h1' hq (show A < 20 by omega) (by rw [r6 97 (by decide)]; exact a2) (fun p hp => ⟨(b4 A p (Nat.le_refl A) hp).1, by rw [r6 122 (by decide)]; exact (b2 p hp).2⟩) (fun c hc => ⟨by have := (b4 A c (Nat.le_refl A) hc).2; omega, by rw [r6 124 (by decide)]; exact (b3 c hc).2⟩)
      have k2 : KeepT I1 I2 := ⟨t7.mono (by decide), by rw [t7 74 (by decide)], by rw [t7 74 (by decide)], fun k q0 q1 _ _ => t8 k q0 q1⟩
      refine ⟨_, I1, I2, r1, t1, r6 0 (by decide), (k1.trans k2).inv o h1 h2 h3 ?_ ?_ ?_⟩
      · exact h4.fr (by rw [t7 58 (by decide), r6 58 (by decide)]) (by rw [t7 103 (by decide), r6 103 (by decide)]) (by rw [t8 13 (by decide) (by decide), r6 97 (by decide)])
      · refine ⟨A + 1, fun j => if j = A + 1 then (fun x => PH A (iv (np C H k s l a a) C x)) else PH j, fun j => if j = A + 1 then (fun c => MH A c + ad (PH A) (fl C H k a) C c) else MH j, fun j => if j = A then (k, s, l, a) else cd j, by rw [t7 87 (by decide)]; exact r2, t2, ⟨by omega, fun p hp => ?_, fun c hc => ?_, fun j p hj hp => ?_, fun j hj => ?_⟩, fun p hp => by rw [t7 89 (by decide), t7 123 (by decide), r6 89 (by decide), r6 123 (by decide)]; exact a4 p hp⟩
        · simp only [if_true]
          obtain ⟨w1, w2⟩ := ivnp (k := k) (s := s) (l := l) hC ha hp
          refine ⟨?_, t3 p hp⟩
          rw [t7 88 (by decide)]
          have := r3 _ w1
          dsimp only at this
          rw [w2] at this
          exact this
        · simp only [if_true]
          exact ⟨by rw [t7 90 (by decide)]; exact r4 c hc, t4 c hc⟩
        · by_cases w : j = A + 1
          · simp only [w, if_true]
            obtain ⟨w1, w2⟩ := ivnp (k := k) (s := s) (l := l) hC ha hp
            have q1 := (b4 A p (Nat.le_refl A) hp).2
            have q2 := ad_le (P := PH A) (C := C) (H := H) (k := k) (a := a) C p
            exact ⟨(b4 A _ (Nat.le_refl A) w1).1, by omega⟩
          · simp only [w, if_false]
            exact b4 j p (by omega) hp
        · have nj : ¬ j = A + 1 := by omega
          by_cases w : j = A
          · unfold HS
            simp only [w, if_true, Nat.left_eq_add, Nat.succ_ne_self, if_false, show ¬ A = A + 1 by omega]
            refine ⟨hq, ?_, fun p hp => (t5 p hp).1, fun c hc => (t5 c hc).2, fun p hp => ?_, fun c hc => trivial⟩
            · rw [t7 91 (by decide), r5 A (by omega), if_pos rfl]
            · rw [ivnp2 hC ha hp]
          · have hj' : j < A := by omega
            obtain ⟨e1, e2, e3, e4, e5, e6⟩ := b5 j hj'
            unfold HS
            simp only [w, nj, if_false, show ¬ j + 1 = A + 1 by omega]
            refine ⟨e1, ?_, fun p hp => ?_, fun c hc => ?_, e5, e6⟩
            · rw [t7 91 (by decide), r5 j (by omega), if_neg w]
              exact e2
            · rw [(t6 (60 * j + p) (by omega)).1, r6 125 (by decide)]
              exact e3 p hp
            · rw [(t6 (60 * j + c) (by omega)).2, r6 126 (by decide)]
              exact e4 c hc
      · exact h6.fr c4 (by rw [t7 58 (by decide), r6 58 (by decide)]) (by rw [t7 92 (by decide), r6 92 (by decide)]) (by rw [t8 59 (by decide) (by decide), r6 97 (by decide)]) (by rw [t8 60 (by decide) (by decide), r6 97 (by decide)]) (fun a ha => by
          rw [t7 a (by rcases ha with rfl | rfl | rfl | rfl | rfl | rfl | rfl | rfl | rfl <;> decide), r6 a (by rcases ha with rfl | rfl | rfl | rfl | rfl | rfl | rfl | rfl | rfl <;> decide)])
    · refine refuse (Or.inr ⟨d1, fun J hJ => ?_⟩)
      unfold f_193 at d2 ⊢
      rw [h1.m2] at d2
      rw [hJ]
      exact d2
end UN
