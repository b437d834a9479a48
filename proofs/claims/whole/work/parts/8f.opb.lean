/-! both parsers behind a part -/
section BO
variable {t : Nat → Nat} {E a0 b0 D : Nat} {P : List Int32} {Ws : List Nat} {cmp : Nat → Nat} {due x2 x4 s e kd v sg W n m m1 m2 m3 r N : Nat} {I I1 K : Nat → Nat → Int32} {J : Nat → Nat → Int64}
theorem m_out (h : PMd b0 P Ws cmp K) (hk : MT s e kd v sg W K J) (tk : Tok E s e kd v sg W) (hE : E ≤ 500) (hM : Mth a0 b0 s P Ws cmp due x2 x4) (ho : opk W sg = 0 ∨ (opk W sg = 10 ∨ opk W sg = 11) ∧ 0 < cmp (dpt Ws)) (hp : sg = 41 → dpt Ws = 0) : ∃ K', Xo (m1 + 2) K J = some (K', J) ∧ Vm 0 K K' ∧ (0 < dpt Ws → K' 97 12 = nI 1 ∧ K' 97 13 = nI s) ∧ (dpt Ws = 0 → K' 97 12 = nI 0 ∧ MT s e kd v sg W K' J) := by
  obtain ⟨w, d5, c2, l1, l2, ev, du⟩ := hM
  have tk1 := tk.1
  have tk2 := tk.2.1
  have e0 : Xo (m1 + 2) K J = lb_159_23 K J := by
    unfold Xo
    rw [fx_s, m159_e _ h hk tk w d5 (c2 _ (Nat.le_refl _)) ho hp, fx_s, bd_159_2, if_pos rfl]
  rw [e0]
  by_cases q : 0 < dpt Ws
  · obtain ⟨K', a1, a2, a3, a4⟩ := m159_b (J := J) h hk.2.1 w d5 q (by omega)
    exact ⟨K', a1, a4, fun _ => ⟨a2, a3⟩, fun z => by omega⟩
  · obtain ⟨K', a1, a2, a3, a4, a5⟩ := m159_g (J := J) h w (by omega) (by omega)
    exact ⟨K', a1, a5.mono (Nat.zero_le _), fun z => by omega, fun _ => ⟨by rw [a4 12 (by decide) (by decide)]; exact h.2.2.2, hk.fr a4⟩⟩
/-- no joining: fault 1 -/
theorem resB_o {s0 : Nat} {Y : Option (Int32 × (Nat → Nat → Int32) × Nat)} (hY : Y = some (nI 1, I, W)) (hc : CT s e kd v sg I) (h : PMd b0 P Ws cmp K) (hk : MT s e kd v sg W K J) (tk : Tok E s e kd v sg W) (hE : E ≤ 500) (hM : Mth a0 b0 s P Ws cmp due x2 x4) (ho : opk W sg = 0 ∨ (opk W sg = 10 ∨ opk W sg = 11) ∧ 0 < cmp (dpt Ws)) (hp : sg = 41 → dpt Ws = 0) (hq : sg = 59 → 0 < dpt Ws) : Res E a0 b0 D s0 I K J Y (Xo (m1 + 2) K J) := by
  obtain ⟨K', a1, a2, a3, a4⟩ := m_out (m1 := m1) h hk tk hE hM ho hp
  by_cases q : 0 < dpt Ws
  · obtain ⟨b1, b2⟩ := a3 q
    exact resB_1 hY (by decide) (by decide) hc a1 b1 b2 a2 (UJ.refl _)
  · obtain ⟨b1, b2⟩ := a4 (by omega)
    exact Or.inr ⟨1, s, e, kd, v, sg, W, I, K', J, by decide, by decide, hY, a1, Kc.refl _ _, a2, UJ.refl _, hc, Or.inr ⟨rfl, b1, b2, tk, fun z => q (hq z)⟩⟩
/-- the class joins -/
theorem c32_j {k : Nat} (h : PC a0 P Ws cmp 0 x2 x4 I) (hc : CT s e kd v sg I) (tk : Tok E s e kd v sg W) (hw : wf Ws) (hd : dpt Ws ≤ 5) (hb : a0 + P.length + Ws.length ≤ 500) (hc2 : cmp (dpt Ws) < 2) (n1 : sg ≠ 59) (n2 : sg ≠ 41) (ek : opk W sg = k) (k0 : k ≠ 0) (hk : k = 10 ∨ k = 11 → cmp (dpt Ws) = 0) : 7 ≤ k ∧ k < 16 ∧ k ≠ 9 ∧ ∃ I', f_32 I W = some (0, I') ∧ PC a0 (P ++ (fls (prk k) Ws).1.map cc) (k :: (fls (prk k) Ws).2) (cmq k (dpt Ws) cmp) 1 (if k = 7 ∨ k = 8 then 1 else 0) 0 I' ∧ Ur (a0 + P.length) I I' := by
  obtain ⟨_, _, _, hsg, _, hW, _, _, _⟩ := tk
  have o : (7 ≤ opk W sg ∧ opk W sg < 16 ∧ opk W sg ≠ 9) ∨ opk W sg = 0 := by
    unfold opk
    repeat' split
    all_goals decide
  rw [ek] at o
  have o' := o.resolve_right k0
  refine ⟨o'.1, o'.2.1, o'.2.2, ?_⟩
  rw [c32_h hc hsg hW n1 n2, ek, if_neg k0]
  by_cases q : k = 10 ∨ k = 11
  · obtain ⟨I', a1, a2, a3⟩ := (c32_4 (W := W) h hw hd hb q hc2).2 (hk q)
    refine ⟨I', by rw [if_pos q]; exact a1, ?_, a3⟩
    have e : cmq k (dpt Ws) cmp = fun d => if d = dpt Ws then 1 else cmp d := by
      funext d
      unfold cmq
      rw [if_neg (show ¬ (k = 7 ∨ k = 8) by omega), if_pos q]
    rw [e, if_neg (show ¬ (k = 7 ∨ k = 8) by omega)]
    exact a2
  · obtain ⟨I', a1, a2, a3⟩ := c32_6 (W := W) h hw hd hb o'.1 o'.2.1 o'.2.2
    refine ⟨I', by rw [if_neg q]; exact a1, ?_, a3⟩
    have e : cmq k (dpt Ws) cmp = fun d => if (k = 7 ∨ k = 8) ∧ d = dpt Ws then 0 else cmp d := by
      funext d
      unfold cmq
      rw [if_neg q]
      by_cases z : d = dpt Ws
      · by_cases y : k = 7 ∨ k = 8
        · rw [if_pos z, if_pos y, if_pos ⟨y, z⟩]
        · rw [if_pos z, if_neg y, if_neg (fun x => y x.1)]
      · rw [if_neg z, if_neg (fun x => z x.2)]
    rw [e]
    exact a2
theorem both_op (ih : IHs t E a0 b0 D N) (hN : N ≤ 501) (hD : D < 8) (h : Both t E a0 b0 P Ws cmp 0 x2 x4 s e kd v sg W I K J) (hs : E < s + (N + 1)) (hn : n ≤ s) (g0 : N + 3 ≤ m) (g1 : N + 3 ≤ m1) : Res E a0 b0 D s I K J (Yc D n (m + 1) I W) (Xo (m1 + 1) K J) := by
  obtain ⟨hTC, hWZ, hWC, hCT, hPC, hTM, hMT, hPM, hTok, hM⟩ := h
  obtain ⟨tk1, tk2, tk3, tk4, tk5, tk6, tk7, tk8, tk9⟩ := id hTok
  obtain ⟨w, d5, c2, l1, l2, ev, du⟩ := id hM
  have hE := hTC.1
  have cm2 := c2 _ (Nat.le_refl _)
  have big : 1000 < FU := FU_big (by decide)
  obtain ⟨m1', rfl⟩ : ∃ k, m1 = k + 1 := ⟨m1 - 1, by omega⟩
  rw [c25_o hPC (by omega)]
  by_cases k59 : sg = 59
  · subst k59
    obtain rfl : kd = 3 := by
      by_cases k3 : kd = 3
      · exact k3
      · have := tk9 k3
        omega
    obtain rfl : W = 17 := tk8 (by decide)
    obtain ⟨z1, z2⟩ := c33_s (W := 17) hPC hCT w d5 (by omega)
    by_cases q : 0 < dpt Ws
    · refine resB_o ?_ hCT hPM hMT hTok hE hM (Or.inl rfl) (fun z => absurd z (by decide)) (fun _ => q)
      rw [z1 q, Option.bind_some]
      exact c25_r (r := 1) (by decide) (by decide)
    · have d0 : dpt Ws = 0 := by omega
      obtain ⟨I1, a1, a2, a3, a4⟩ := z2 d0
      obtain ⟨K1, b1, b2, b3, b4, b5⟩ := m159_g (J := J) hPM w d0 (by omega)
      have fl := fls_len 1 Ws
      have el := encL_fls (p := 1) (P := P) w.vld
      have ev' := ev.flush w (p := 1) (by decide)
      rw [(fls_close w).1 d0] at fl el ev'
      rw [List.length_nil] at fl el
      generalize hP : P ++ (fls 1 Ws).1.map cc = P' at a3 b2 b3 el ev'
      have lP : P'.length = P.length + (fls 1 Ws).1.length := by rw [← hP, List.length_append, List.length_map]
      obtain ⟨m', rfl⟩ : ∃ k, m = k + 1 := ⟨m - 1, by omega⟩
      have u1 : Kc a0 I I1 := a4.k (by omega)
      left
      refine ⟨P', s, e, v, 17, I1, K1, J, ?_, ?_, u1, b5.mono (by omega), UJ.refl _, ?_, hMT.fr b4, hTok, a3.1, a3.2.1, ?_, ?_, b3, ?_, by omega, by omega, Nat.le_refl _⟩
      · have t6 : ∀ y : Int32, lb_25_6 (nI D) I1 17 = some (0, up I1 69 D (nI (a0 + P'.length)), 17) := fun _ => by
          rw [lb_25_6, puN hD (by decide), a3.1]
        rw [a1, Option.bind_some]
        dsimp only
        rw [lb_25_3, if_pos rfl, a2, if_neg (show ¬ nI 1 = 0 by decide), lb_25_5, fx_s, bd_25_1, a2, if_neg (show ¬ nI 1 = 0 by decide), ite_self]
        exact t6 0
      · unfold Xo
        rw [fx_s, m159_e _ hPM hMT hTok w d5 cm2 (Or.inl rfl) (fun z => absurd z (by decide)), fx_s, bd_159_2, if_pos rfl]
        exact b1
      · unfold CT
        rw [a4.1 60 (by decide)]
        exact hCT
      · rw [b4 12 (by decide) (by decide)]; exact hPM.2.2.2
      · rw [b2, List.length_append, List.length_singleton, Nat.add_assoc]
      · exact ev'
  · by_cases k41 : sg = 41
    · subst k41
      obtain rfl : kd = 3 := by
        by_cases k3 : kd = 3
        · exact k3
        · have := tk9 k3
          omega
      obtain rfl : W = 17 := tk8 (by decide)
      have se := tk3 (by decide)
      obtain ⟨z1, z2⟩ := c34_s (W := 17) hPC hCT w d5 (by omega)
      by_cases q : 0 < dpt Ws
      · obtain ⟨Vs, I1, v1, v2, a1, a2, a3⟩ := z2 q
        obtain ⟨s', e', kd', v', sg', W', I2, b1, b2, b3, b4, b5, b6, b7⟩ := gonext (W0 := 17) hTC hWZ hCT tk2 a3 a2 (by omega)
        obtain ⟨Vs', K1, J1, v1', v2', d1, d2, d3, d4, d5'⟩ := f158_s (J := J) hPM hTM hMT.1 w d5 q (by omega) tk2 b2
        obtain rfl : Vs = Vs' := by
          rw [v1] at v1'
          exact (List.cons.inj v1').2
        have st : Both t E a0 b0 (P ++ (fls 1 Ws).1.map cc) Vs cmp 0 x2 x4 s' e' kd' v' sg' W' I2 K1 J1 := ⟨hTC.k b7, hWZ.k b7, hWC.k b7, b5, b6, hTM.v d4, d3, d2, b3, (hM.close v1 v2).mono (by omega)⟩
        have fin := (ih _ Vs cmp 0 x2 x4 s' e' kd' v' sg' W' I2 K1 J1 (n + 1) m (m1' + 1) m m st (by omega) (by omega) g0 g1 g0 g0).2 rfl
        have eY : ((f_32 I 17).bind fun q8 => lb_25_3 (fx (fun _ _ _ _ => none) bd_25_1 m) (nI D) (nI n) q8.1 q8.2 17) = Yc D (n + 1) m I2 W' := by
          rw [a1, Option.bind_some]
          dsimp only
          rw [c25_n a2.2.2.2.1, b1, Option.bind_some]
        have eX : Xo (m1' + 1 + 1) K J = Xo (m1' + 1) K1 J1 := by
          have e1 : Xo (m1' + 1 + 1) K J = bd_159_2 (fx (fun _ _ _ => none) bd_159_2 (m1' + 1)) (1 : Int32) K J := rfl
          rw [e1, m159_h _ hPM.2.2.2 hMT hTok, if_neg (by decide), if_neg (by decide), if_neg (by decide), if_neg (by decide), m159_12h _ hMT hTok, if_neg (by decide), if_neg (by decide), if_neg (by decide), if_neg (by decide), if_pos rfl, f157_s hPM w d5, Option.bind_some, b01, if_pos q, d1, Option.bind_some]
          rfl
        rw [eY, eX]
        exact fin.step (by omega) b7 (Nat.le_refl _) d4 (by omega) d5'
      · have d0 : dpt Ws = 0 := by omega
        refine resB_o ?_ hCT hPM hMT hTok hE hM (Or.inl rfl) (fun _ => d0) (fun z => absurd z (by decide))
        rw [z1 d0, Option.bind_some]
        exact c25_r (r := 1) (by decide) (by decide)
    · generalize ek : opk W sg = k
      by_cases bad : k = 0 ∨ (k = 10 ∨ k = 11) ∧ 0 < cmp (dpt Ws)
      · refine resB_o ?_ hCT hPM hMT hTok hE hM (by rw [ek]; exact bad) (fun z => absurd z k41) (fun z => absurd z k59)
        have e32 : f_32 I W = some (1, I) := by
          rw [c32_h hCT tk4 tk6 k59 k41, ek]
          rcases bad with z | ⟨z, y⟩
          · rw [if_pos z]
          · rw [if_neg (by omega), if_pos z]
            exact (c32_4 (W := W) hPC w d5 (by omega) z cm2).1 y
        rw [e32, Option.bind_some]
        exact c25_r (r := 1) (by decide) (by decide)
      · have k0 : k ≠ 0 := fun z => bad (Or.inl z)
        have hc0 : k = 10 ∨ k = 11 → cmp (dpt Ws) = 0 := fun z => by
          have : ¬ 0 < cmp (dpt Ws) := fun y => bad (Or.inr ⟨z, y⟩)
          omega
        have se : s < e := tk3 (fun z => by
          have hW := tk8 (by omega)
          have hS := tk9 (by omega)
          rw [hW, hS] at ek
          exact k0 ek.symm)
        obtain ⟨k7, k16, k9, I1, a1, a2, a3⟩ := c32_j hPC hCT hTok w d5 (by omega) cm2 k59 k41 ek k0 hc0
        obtain ⟨s', e', kd', v', sg', W', I2, b1, b2, b3, b4, b5, b6, b7⟩ := gonext (W0 := W) hTC hWZ hCT tk2 a3 a2 (by omega)
        obtain ⟨K1, J1, d1, d2, d3, d4, d5'⟩ := m159_op (fx (fun _ _ _ => none) bd_159_2 (m1' + 1)) hPM hTM hMT hTok w d5 (by omega) b2 ek k0 hc0
        obtain ⟨m2, h2, e2⟩ := f156_d (b := if k = 7 ∨ k = 8 then 1 else 0) (J := J1) d2.2.2.2
        have st : Both t E a0 b0 (P ++ (fls (prk k) Ws).1.map cc) (k :: (fls (prk k) Ws).2) (cmq k (dpt Ws) cmp) 1 (if k = 7 ∨ k = 8 then 1 else 0) 0 s' e' kd' v' sg' W' I2 K1 J1 := ⟨hTC.k b7, hWZ.k b7, hWC.k b7, b5, b6, hTM.v d4, d3, d2, b3, (hM.join k7 k16 k9).mono (by omega)⟩
        have fin := (ih _ _ _ 1 _ 0 s' e' kd' v' sg' W' I2 K1 J1 (n + 1) m (m1' + 1) m2 FU st (by omega) (by omega) g0 g1 (by omega) (by omega)).1 rfl
        have eY : ((f_32 I W).bind fun q8 => lb_25_3 (fx (fun _ _ _ _ => none) bd_25_1 m) (nI D) (nI n) q8.1 q8.2 W) = Yc D (n + 1) m I2 W' := by
          rw [a1, Option.bind_some]
          dsimp only
          rw [c25_n a2.2.2.2.1, b1, Option.bind_some]
        have eX : Xo (m1' + 1 + 1) K J = Xd (m1' + 1) m2 FU (if k = 7 ∨ k = 8 then 1 else 0) 0 K1 J1 := by
          rw [← e2]
          have e1 : Xo (m1' + 1 + 1) K J = bd_159_2 (fx (fun _ _ _ => none) bd_159_2 (m1' + 1)) (1 : Int32) K J := rfl
          have e3 : nI (if k = 7 ∨ k = 8 then 1 else 0) = if k = 7 ∨ k = 8 then (1 : Int32) else (0 : Int32) := by split <;> rfl
          rw [e1, d1, e3]
          rfl
        rw [eY, eX]
        exact fin.step (by omega) b7 (Nat.le_refl _) d4 (by omega) d5'
theorem both_s (hD : D < 8) : ∀ N, N ≤ 501 → IHs t E a0 b0 D N
  | 0, _ => fun P Ws cmp due x2 x4 s e kd v sg W I K J n m m1 m2 m3 h hs _ _ _ _ _ => by
    obtain ⟨_, _, _, _, _, _, _, _, tk, _⟩ := h
    have t1 := tk.1
    have t2 := tk.2.1
    exact absurd hs (by omega)
  | N + 1, hN => fun P Ws cmp due x2 x4 s e kd v sg W I K J n m m1 m2 m3 h hs hn g0 g1 g2 g3 => by
    have ih := both_s hD N (by omega)
    obtain ⟨m', rfl⟩ : ∃ k, m = k + 1 := ⟨m - 1, by omega⟩
    obtain ⟨m1', rfl⟩ : ∃ k, m1 = k + 1 := ⟨m1 - 1, by omega⟩
    obtain ⟨m2', rfl⟩ : ∃ k, m2 = k + 1 := ⟨m2 - 1, by omega⟩
    obtain ⟨m3', rfl⟩ : ∃ k, m3 = k + 1 := ⟨m3 - 1, by omega⟩
    constructor
    · rintro rfl
      exact both_due ih (by omega) h hs hn (by omega) (by omega) (by omega) (by omega)
    · rintro rfl
      exact both_op ih (by omega) hD h hs hn (by omega) (by omega)
end BO
