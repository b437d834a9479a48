/-! What holds when both are made -/
theorem nw_ne {α : Type} [OfNat α 0] {I : Nat → Nat → α} {a b : Nat} (h : b ≠ a) : nw I a b = I b := if_neg h
theorem nw_at {α : Type} [OfNat α 0] {I : Nat → Nat → α} {a k : Nat} : nw I a a k = 0 := congrFun (if_pos rfl) k
theorem ct_lo {I : Nat → Nat → Int32} {a : Nat} (h : a < 58) : ctI I a = I a := by
  unfold ctI
  simp (disch := omega) only [up_ne, nw_ne, cpyf_ne]
theorem mo_lo {I : Nat → Nat → Int32} {a : Nat} (h : a < 97) : moI I a = I a := by
  unfold moI
  simp (disch := omega) only [up_ne, nw_ne]
theorem ct_63 (I : Nat → Nat → Int32) : ctI I 63 = va_cpy (I 55) (fun _ => 0) 0 0 4 := by
  unfold ctI
  simp (disch := decide) only [up_ne, nw_ne]
  unfold cpyf
  rw [show ∀ (X : Nat → Nat → Int32) (g : Nat → Int32), ex_set X 63 g 63 = g from fun X g => if_pos rfl]
  simp (disch := decide) only [up_ne, nw_ne]
  rfl
theorem ct_v (I : Nat → Nat → Int32) : ctI I 62 6 = 0 ∧ ctI I 60 1 = 0 ∧ ctI I 58 10 = -1 ∧ ctI I 58 11 = 0 ∧ ctI I 58 12 = 0 := by
  unfold ctI
  refine ⟨?_, ?_, ?_, ?_, ?_⟩
  · simp (disch := decide) only [up_ne, nw_ne, cpyf_ne, up_nk, up_at]
  · simp (disch := decide) only [up_ne, nw_ne, cpyf_ne, up_nk, up_at]
  · simp (disch := decide) only [up_ne, nw_ne, cpyf_ne, up_nk, up_at]
  · simp (disch := decide) only [up_ne, nw_ne, cpyf_ne, up_nk, up_at]
  · simp (disch := decide) only [up_ne, nw_ne, cpyf_ne, up_nk, up_at]
theorem mo_v (I : Nat → Nat → Int32) : (moI (nw I 97) 97 1 = 27 ∧ moI (nw I 97) 97 2 = 3 ∧ moI (nw I 97) 97 3 = 0 ∧ moI (nw I 97) 97 4 = 0 ∧ moI (nw I 97) 97 5 = 0) ∧ moI (nw I 97) 97 11 = 0 ∧ moI (nw I 97) 97 13 = -1 ∧ moI (nw I 97) 97 48 = -1 ∧ moI (nw I 97) 97 59 = 0 ∧ moI (nw I 97) 103 0 = 0 ∧ moI (nw I 97) 103 1 = 0 := by
  unfold moI
  refine ⟨⟨?_, ?_, ?_, ?_, ?_⟩, ?_, ?_, ?_, ?_, ?_, ?_⟩
  · simp (disch := decide) only [up_ne, nw_ne, up_nk, up_at, nw_at]
  · simp (disch := decide) only [up_ne, nw_ne, up_nk, up_at, nw_at]
  · simp (disch := decide) only [up_ne, nw_ne, up_nk, up_at, nw_at]
  · simp (disch := decide) only [up_ne, nw_ne, up_nk, up_at, nw_at]
  · simp (disch := decide) only [up_ne, nw_ne, up_nk, up_at, nw_at]
  · simp (disch := decide) only [up_ne, nw_ne, up_nk, up_at, nw_at]
  · simp (disch := decide) only [up_ne, nw_ne, up_nk, up_at, nw_at]
  · simp (disch := decide) only [up_ne, nw_ne, up_nk, up_at, nw_at]
  · simp (disch := decide) only [up_ne, nw_ne, up_nk, up_at, nw_at]
  · simp (disch := decide) only [up_ne, nw_ne, up_nk, up_at, nw_at]
  · simp (disch := decide) only [up_ne, nw_ne, up_nk, up_at, nw_at]
theorem n27 : (27 : Int32) = nI 27 := rfl
theorem n3 : (3 : Int32) = nI 3 := rfl
theorem n0 : (0 : Int32) = nI 0 := rfl
theorem ch27 : CH 27 3 := ⟨by decide, by decide, by decide, by decide⟩
theorem start_c {I0 I1 : Nat → Nat → Int32} (tn : TN I0) (c63 : ∀ i, i < 4 → I1 63 i = I0 55 i) (v62 : I1 62 6 = nI 0) : ∃ r1 K S Y, f_114 I1 = some r1 ∧ SetC 27 3 0 0 0 K S Y r1 ∧ (K 0 = 0 ∧ S 0 = 1 ∧ ∀ h, h < 3 → Y 0 h = 3 / 2) ∧ (∀ p, p < 60 → r1 88 p = nI p ∧ r1 89 p = nI p ∧ r1 90 p = nI 0) ∧ r1 87 4 = nI 0 ∧ r1 84 6 = nI 0 ∧ r1 58 9 = nI 0 ∧ (∀ k, k ≠ 9 → r1 58 k = I1 58 k) ∧ (∀ a, a < 58 → r1 a = I1 a) ∧ r1 60 = I1 60 := by
  have z0 : I1 63 0 = nI 27 := (c63 0 (by decide)).trans (tn 0 (by decide)).2.2
  have z1 : I1 63 1 = nI 3 := (c63 1 (by decide)).trans (tn 1 (by decide)).2.2
  have z2 : I1 63 2 = nI 0 := (c63 2 (by decide)).trans (tn 2 (by decide)).2.2
  have z3 : I1 63 3 = nI 0 := (c63 3 (by decide)).trans (tn 3 (by decide)).2.2
  have hR : RSc 0 (fun _ => []) (fun _ => 0) (fun _ => 0) (fun _ => 0) I1 := ⟨Nat.zero_le _, rfl, fun d hd => absurd hd (Nat.not_lt_zero _)⟩
  obtain ⟨I', K, S, Y, a1, a2, a3, _, a5⟩ := f47_s ch27 z0 z1 z2 z3 v62 hR
  obtain ⟨I'', b1, b2, b3, b4⟩ := f60_s I'
  have ko : ∀ a, a ≠ 58 → a ≠ 84 → (up (up I'' 84 6 (0 : Int32)) 58 9 (0 : Int32)) a = I'' a := fun a h1 h2 => by rw [up_ne h1, up_ne h2]
  have lo : ∀ a, a < 72 → I'' a = I1 a := fun a ha => by rw [b4 a (by simp; omega), a5 a (by simp; omega)]
  refine ⟨up (up I'' 84 6 (0 : Int32)) 58 9 (0 : Int32), K, S, Y, ?_, ?_, a3 rfl, ?_, ?_, ?_, ?_, ?_, ?_, ?_⟩
  · rw [f_114, a1, Option.bind_some, b1, Option.bind_some]
  · exact a2.fr (fun a h1 h2 => by rw [ko a (by omega) (by omega), b4 a (by simp; omega)])
  · intro p hp
    rw [ko 88 (by decide) (by decide), ko 89 (by decide) (by decide), ko 90 (by decide) (by decide)]
    exact b2 p hp
  · rw [ko 87 (by decide) (by decide)]
    exact b3
  · rw [up_ne (by decide), up_at, n0]
  · rw [up_at, n0]
  · intro k hk
    rw [up_nk hk, up_ne (by decide), lo 58 (by decide)]
  · intro a ha
    rw [ko a (by omega) (by omega), lo a (by omega)]
  · rw [ko 60 (by decide) (by decide), lo 60 (by decide)]
theorem start_i {I0 I1 r1 I2 I3 : Nat → Nat → Int32} {K S : Nat → Nat} {Y : Nat → Nat → Nat} (e0 : ∀ a, a < 58 → I1 a = I0 a) (v60 : I1 60 1 = nI 0) (w10 : I1 58 10 = -1) (w11 : I1 58 11 = nI 0) (w12 : I1 58 12 = nI 0) (a2 : SetC 27 3 0 0 0 K S Y r1) (a3 : K 0 = 0 ∧ S 0 = 1 ∧ ∀ h, h < 3 → Y 0 h = 3 / 2) (b2 : ∀ p, p < 60 → r1 88 p = nI p ∧ r1 89 p = nI p ∧ r1 90 p = nI 0) (b3 : r1 87 4 = nI 0) (t84 : r1 84 6 = nI 0) (t58 : r1 58 9 = nI 0) (k58 : ∀ k, k ≠ 9 → r1 58 k = I1 58 k) (lo : ∀ a, a < 58 → r1 a = I1 a) (k60 : r1 60 = I1 60)
    (n1 : I2 97 1 = nI 27) (n2 : I2 97 2 = nI 3) (n3 : I2 97 3 = nI 0) (n4 : I2 97 4 = nI 0) (n5 : I2 97 5 = nI 0) (n11 : I2 97 11 = nI 0) (n13 : I2 97 13 = -1) (n48 : I2 97 48 = -1) (n59 : I2 97 59 = nI 0) (n103 : I2 103 0 = nI 0) (n104 : I2 103 1 = nI 0)
    (tot : ∀ a, a < 97 → I3 a = r1 a) (tk : ∀ k, k ≠ 52 → I3 97 k = I2 97 k) (t52 : I3 97 52 = nI 0) (t103 : I3 103 = I2 103) (t122 : ∀ p, p < 60 → I3 122 p = nI p ∧ I3 123 p = nI p ∧ I3 124 p = nI 0) : Inv I0 I3 := by
  obtain ⟨v1, v2, v3, v4, v5⟩ := a2.fr (I' := I3) (fun a h1 h2 => tot a (by omega))
  refine ⟨fun a ha => by rw [tot a (by omega), lo a ha, e0 a ha], 27, 3, 0, 0, 0, K, S, Y, 0, ?_, ?_, ?_, ?_, ?_, ?_⟩
  · exact ⟨ch27, by decide, by decide, by decide, v1, v2, v3, v4, v5, ⟨(tk 1 (by decide)).trans n1, (tk 2 (by decide)).trans n2, (tk 3 (by decide)).trans n3, (tk 4 (by decide)).trans n4, (tk 5 (by decide)).trans n5⟩, fun _ => a3, fun d hd => absurd hd (Nat.not_lt_zero _)⟩
  · exact ⟨by decide, by rw [tot 60 (by decide), k60]; exact v60, (tk 11 (by decide)).trans n11, fun i hi => absurd hi (Nat.not_lt_zero _)⟩
  · exact Or.inl ⟨by rw [tot 84 (by decide)]; exact t84, (tk 48 (by decide)).trans n48⟩
  · refine ⟨?_, ?_, ?_⟩
    · rw [tot 58 (by decide), k58 10 (by decide), w10, tk 13 (by decide), n13]
    · rw [tot 58 (by decide), k58 11 (by decide), w11, t103, n103]
    · rw [tot 58 (by decide), k58 12 (by decide), w12, t103, n104]
  · refine ⟨0, fun _ p => p, fun _ _ => 0, fun _ => (0, 0, 0, 0), by rw [tot 87 (by decide)]; exact b3, t52, ⟨by decide, fun p hp' => ?_, fun p hp' => ?_, fun j p _ hp' => ⟨hp', Nat.zero_le _⟩, fun j hj => absurd hj (Nat.not_lt_zero _)⟩, fun p hp' => ?_⟩
    · rw [tot 88 (by decide)]
      exact ⟨(b2 p (by omega)).1, (t122 p (by omega)).1⟩
    · rw [tot 90 (by decide)]
      exact ⟨(b2 p (by omega)).2.2, (t122 p (by omega)).2.2⟩
    · rw [tot 89 (by decide), (b2 p (by omega)).2.1, (t122 p (by omega)).2.1]
  · exact Or.inl ⟨by rw [tot 58 (by decide)]; exact t58, (tk 59 (by decide)).trans n59⟩
theorem start_inv {I0 : Nat → Nat → Int32} (tn : TN I0) : ∃ r1 r2, f_114 (ctI (nw I0 58)) = some r1 ∧ f_163 (moI (nw r1 97)) = some r2 ∧ Inv I0 (nw r2 133) := by
  have e0 : ∀ a, a < 58 → ctI (nw I0 58) a = I0 a := fun a ha => by rw [ct_lo ha, nw_ne (by omega)]
  have c63 : ∀ i, i < 4 → ctI (nw I0 58) 63 i = I0 55 i := fun i hi => by
    rw [ct_63, nw_ne (by decide)]
    unfold va_cpy
    rw [if_pos ⟨Nat.zero_le _, by omega⟩]
    simp
  obtain ⟨v62, v60, w10, w11, w12⟩ := ct_v (nw I0 58)
  generalize ctI (nw I0 58) = I1 at e0 c63 v62 v60 w10 w11 w12
  obtain ⟨r1, K, S, Y, g1, a2, a3, b2, b3, t84, t58, k58, lo, k60⟩ := start_c tn c63 (v62.trans n0)
  have mlo : ∀ a, a < 97 → moI (nw r1 97) a = r1 a := fun a ha => by rw [mo_lo ha, nw_ne (by omega)]
  obtain ⟨⟨m1, m2, m3, m4, m5⟩, m11, m13, m48, m59, m103, m104⟩ := mo_v r1
  generalize hI2 : moI (nw r1 97) = I2 at mlo m1 m2 m3 m4 m5 m11 m13 m48 m59 m103 m104
  obtain ⟨r2, q1, q2, q3, q4, q5⟩ := f163_s I2
  refine ⟨r1, r2, g1, by rw [hI2]; exact q1, ?_⟩
  exact start_i e0 (v60.trans n0) w10 (w11.trans n0) (w12.trans n0) a2 a3 b2 b3 t84 t58 k58 lo k60 (m1.trans n27) (m2.trans n3) (m3.trans n0) (m4.trans n0) (m5.trans n0) (m11.trans n0) m13 m48 (m59.trans n0) (m103.trans n0) (m104.trans n0)
    (fun a ha => by rw [nw_ne (by omega), q4 a (by simp; omega), mlo a ha]) (fun k hk => by rw [nw_ne (by decide), q5 k hk]) (by rw [nw_ne (by decide), q3]) (by rw [nw_ne (by decide), q4 103 (by decide)])
    (fun p hp => by
      rw [nw_ne (by decide), nw_ne (by decide), nw_ne (by decide)]
      exact q2 p hp)
/-- the law, from its start -/
def S0 (nS : Nat) : List ex_Sh := .inr (.int, nS) :: pg_S.take 57
theorem l0 {nS : Nat} : (S0 nS).length = 58 := rfl
theorem law_tm {nS : Nat} {fm : Option Nat} {I0 : Nat → Nat → Int32} {J0 : Nat → Nat → Int64} (hn : nS ≤ 3072) (zp : ZP I0) : ∃ I' J' W' C', tm 16 239 [.ref 0] ((S0 nS, 0, 0), I0, J0, Rz fm) (.inl (some (.int 1))) (cw (km (kl (nS, fm, [], Nn))) C' I' J' W') ∧ C'.1 ≤ 601024 ∧ C'.2 ≤ 7293034 := by
  obtain ⟨r1, r2, h1, h2, hI⟩ := start_inv zp.2.2
  obtain ⟨I', J', W', C', e, b1, b2⟩ := law_s hn zp nS 0 FU (nw r2 133) (nw (moJ (nw (ctJ (nw J0 58)) 97)) 133) 17 (76, 13221) (Nat.zero_le _) (Nat.le_refl _) (FU_big (by omega)) hI
  have e' : lb_239_1 (nI 0) nS (nw r2 133) (nw (moJ (nw (ctJ (nw J0 58)) 97)) 133) 17 (76, 13221) = some ((1 : Int32), I', J', W', C') := e
  have b1 : C'.1 ≤ 76 + nS := b1
  have b2 : C'.2 ≤ 13221 + 6 * nS := b2
  refine ⟨I', J', W', C', ?_, by omega, by omega⟩
  refine tm_of me_239 rfl (by decide) ?_
  refine tn_new (S := S0 nS) (c := 0) (s := 0) (q := 13) l0 rfl ?_
  refine tn_dup ?_
  refine tn_l1 (by decide) g58 (by decide) (by decide) (ci_87 h1) ?_
  refine tt_S 1 [some (.ref 0), some (.ref 58), none, none, none, none, none, none] [] (cw (nS, fm, [], Nn) (39, 3087) r1 (ctJ (nw J0 58)) 17) (fun _ => rfl) ?_
  refine tn_new (S := .inr (.int, nS) :: (pg_S ++ [])) (c := 39) (s := 3087) (I := r1) (J := ctJ (nw J0 58)) (R := pg_R fm Nn 17) (q := 66) (m := 97) rfl rfl ?_
  refine tn_dup ?_
  refine tn_l1 (by decide) g97 (by decide) (by decide) (ci_130 h2) ?_
  refine tt_S 1 [some (.ref 0), some (.ref 58), some (.ref 97), none, none, none, none, none] [] (cw (km (nS, fm, [], Nn)) (75, 13220) r2 (moJ (nw (ctJ (nw J0 58)) 97)) 17) (fun _ => rfl) ?_
  refine tn_ic ?_
  refine tn_arr (S := .inr (.int, nS) :: (pg_S ++ (pg_S2 ++ []))) (c := 75) (s := 13220) (I := r2) (J := moJ (nw (ctJ (nw J0 58)) 97)) (R := pg_R fm (pg_R2 Nn) 17) (q := 1) (m := 133) rfl (by decide) ?_
  refine tt_S 3 [some (.ref 0), some (.ref 58), some (.ref 97), some (.ref 133), some (.int (nI 0)), none, none, none] [] (cw (km (kl (nS, fm, [], Nn))) (76, 13221) (nw r2 133) (nw (moJ (nw (ctJ (nw J0 58)) 97)) 133) 17) (fun _ => rfl) ?_
  exact tl_239_1 (κ := (fm, [], Nn)) (nI 0) nS _ _ 17 (76, 13221) ((1 : Int32), I', J', W', C') e'
