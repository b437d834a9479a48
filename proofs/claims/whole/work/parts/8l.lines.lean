/-! all lines -/
theorem wd21 : ∀ W, W ≤ 17 → 1 ≤ W → (W ≤ 4 → f_21 W = some (nI (W - 1)) ∧ nI (W - 1) ≠ -1) ∧ (4 < W → f_21 W = some (-1)) := by decide +kernel
theorem wd5 : ∀ W, W ≤ 17 → 5 < W → mw W ≠ 3 ∧ mw W ≠ 2 ∧ mw W ≠ 6 ∧ mw W ≠ 1 ∧ mw W ≠ 0 := by decide +kernel
def LLA (I K : Nat → Nat → Int32) (J : Nat → Nat → Int64) (Y : Option (Int32 × (Nat → Nat → Int32) × Nat)) (X : Option (Int32 × (Nat → Nat → Int32) × (Nat → Nat → Int64))) : Prop := ∃ s' W' I' K' J' q g D R A B Kd Sd, Y = some (0, up I' 62 7 (-1), W') ∧ X = lb_162_6 K' J' ∧ Lc I I' ∧ Lm K K' ∧ UJ J J' ∧ K' 97 12 = nI 0 ∧ LSn q g I' K' ∧ LSr s' D R A B Kd Sd I' K' ∧ q 1 ≤ q 0 ∧ s' ≤ 500
def LLB (I K : Nat → Nat → Int32) (J : Nat → Nat → Int64) (Y : Option (Int32 × (Nat → Nat → Int32) × Nat)) (X : Option (Int32 × (Nat → Nat → Int32) × (Nat → Nat → Int64))) : Prop := ∃ r s' W' I' K' J', 0 < r ∧ r < 10 ∧ Y = some (nI r, up I' 62 7 (nI s'), W') ∧ X = some (nI r, up K' 103 0 (K' 103 0 + 1), J') ∧ Lc I I' ∧ Lm K K' ∧ UJ J J' ∧ K' 97 13 = nI s'
section LL
variable {t : Nat → Nat} {E s e kd v sg W r D n m m1 N : Nat} {I I1 K K1 : Nat → Nat → Int32} {J J1 : Nat → Nat → Int64}
theorem LLA.step {Y : Option (Int32 × (Nat → Nat → Int32) × Nat)} {X : Option (Int32 × (Nat → Nat → Int32) × (Nat → Nat → Int64))} (h : LLA I1 K1 J1 Y X) (u : Lc I I1) (v : Lm K K1) (j : UJ J J1) : LLA I K J Y X := by
  obtain ⟨s', W', I', K', J', q, g, D, R, A, B, Kd, Sd, a1, a2, a3, a4, a5, a6⟩ := h
  exact ⟨s', W', I', K', J', q, g, D, R, A, B, Kd, Sd, a1, a2, u.trans a3, v.trans a4, j.trans a5, a6⟩
theorem LLB.step {Y : Option (Int32 × (Nat → Nat → Int32) × Nat)} {X : Option (Int32 × (Nat → Nat → Int32) × (Nat → Nat → Int64))} (h : LLB I1 K1 J1 Y X) (u : Lc I I1) (v : Lm K K1) (j : UJ J J1) : LLB I K J Y X := by
  obtain ⟨r, s', W', I', K', J', a1, a2, a3, a4, a5, a6, a7, a8⟩ := h
  exact ⟨r, s', W', I', K', J', a1, a2, a3, a4, u.trans a5, v.trans a6, j.trans a7, a8⟩
theorem c17_r {x3 : Int32} (h0 : 0 < r) (hr : r < 10) (h4 : I 60 4 = nI s) : fx (fun _ _ _ _ => none) bd_17_1 (m + 1) (nI r) x3 I W = some (nI r, up I 62 7 (nI s), W) := by
  have n0 : ¬ nI r = 0 := fun z => by have := (eqN (b := 0) (by omega) (by decide)).mp z; omega
  rw [fx_s, bd_17_1, if_neg n0, ite_self, lb_17_6, if_neg n0, lb_17_7, if_neg n0, lb_17_9, h4]
theorem m162_6 (h12 : K 97 12 = nI r) (h0 : 0 < r) (hr : r < 10) : lb_162_6 K J = some (nI r, up K 103 0 (K 103 0 + 1), J) := by
  have i0 : ex_in (0 : Int32) 2 := (inN (a := 0) (by decide)).mpr (by decide)
  have c0 : (0 : Int32).toNatClampNeg = 0 := rfl
  rw [lb_162_6, f145_n h12 h0 hr, Option.bind_some, if_pos (show nI 0 = 0 from rfl), if_pos i0, if_pos i0, c0]
  dsimp only
  rw [up_ne (by decide), h12]
theorem m162_r {x1 : Int32} (h12 : K 97 12 = nI r) (h0 : 0 < r) (hr : r < 10) : fx (fun _ _ _ => none) bd_162_4 (m + 1) x1 K J = some (nI r, up K 103 0 (K 103 0 + 1), J) := by
  rw [fx_s, bd_162_4, f145_n h12 h0 hr, Option.bind_some, if_pos (show nI 0 = 0 from rfl), lb_162_5, f145_n h12 h0 hr, Option.bind_some, if_pos (show nI 0 = 0 from rfl), m162_6 h12 h0 hr]
theorem lines_s : ∀ (N : Nat) (s e kd v sg W n m m1 : Nat) (I K : Nat → Nat → Int32) (J : Nat → Nat → Int64), LB t E s e kd v sg W I K J → E < s + N → n ≤ s → N + 2 ≤ m → N + 2 ≤ m1 → LLA I K J (fx (fun _ _ _ _ => none) bd_17_1 m (nI 0) (nI n) I W) (fx (fun _ _ _ => none) bd_162_4 m1 (nI E) K J) ∨ LLB I K J (fx (fun _ _ _ _ => none) bd_17_1 m (nI 0) (nI n) I W) (fx (fun _ _ _ => none) bd_162_4 m1 (nI E) K J)
  | 0, s, e, kd, v, sg, W, n, m, m1, I, K, J, h, hs, _, _, _ => by
    obtain ⟨_, _, _, _, _, _, _, _, tk, _⟩ := h
    have t1 := tk.1
    have t2 := tk.2.1
    exact absurd hs (by omega)
  | N + 1, s, e, kd, v, sg, W, n, m, m1, I, K, J, h, hs, hn, g0, g1 => by
    have h0 := h
    obtain ⟨hTC, hWZ, hWC, hTN, hCT, hTM, hMT, h12, hTok, hEn, ⟨q, g, hq⟩, D, R, A, B, Kd, Sd, hr⟩ := h
    obtain ⟨tk1, tk2, tk3, tk4, tk5, tk6, tk7, tk8, tk9⟩ := id hTok
    have hE := hTC.1
    obtain ⟨m', rfl⟩ : ∃ k, m = k + 1 := ⟨m - 1, by omega⟩
    obtain ⟨m1', rfl⟩ : ∃ k, m1 = k + 1 := ⟨m1 - 1, by omega⟩
    have z00 : nI 0 = 0 := rfl
    by_cases k0 : kd = 0
    · subst k0
      have sE := hEn rfl
      have m17 : K 97 17 = nI 0 := by
        have := hMT.2.2.1
        rw [if_neg (fun z => absurd z.1 (by decide))] at this
        exact this
      obtain ⟨q0, _, _, ql0, qh0, f0⟩ := hq.1 0 (by decide)
      obtain ⟨q1, _, _, ql1, qh1, f1⟩ := hq.1 1 (by decide)
      have h60 : hi 0 = 60 := rfl
      have h6 : hi 1 = 6 := rfl
      have c0 : atf (I 63) 4 (0 : Int32) = nI (q 0) := by rw [show (0 : Int32) = nI 0 from rfl, atN (by decide) (by decide)]; exact q0
      have c1 : atf (I 63) 4 (1 : Int32) = nI (q 1) := by rw [show (1 : Int32) = nI 1 from rfl, atN (by decide) (by decide)]; exact q1
      have eY : fx (fun _ _ _ _ => none) bd_17_1 (m' + 1) (nI 0) (nI n) I W = if nI (q 0) < nI (q 1) then lb_17_7 (5 : Int32) I W else lb_17_7 (nI 0) I W := by
        rw [fx_s, bd_17_1, if_pos z00, hCT.2.2.1, if_pos z00, ite_self, lb_17_6, if_pos z00, c0, c1]
      have eX : fx (fun _ _ _ => none) bd_162_4 (m1' + 1) (nI E) K J = if nI (q 0) < nI (q 1) then ((f_144 (5 : Int32) (up K 97 18 (nI E))).bind fun q33 => (lb_162_6 q33 J)) else (lb_162_6 K J) := by
        rw [fx_s, bd_162_4, f145_y h12, Option.bind_some, if_neg (show ¬ nI 1 = 0 by decide), m17, if_pos z00, lb_162_5, f145_y h12, Option.bind_some, if_neg (show ¬ nI 1 = 0 by decide), show K 97 23 = nI (q 0) from f0, show K 97 24 = nI (q 1) from f1]
      rw [eY, eX]
      by_cases lt : q 0 < q 1
      · right
        have lt' : nI (q 0) < nI (q 1) := (ltN (by omega) (by omega)).mpr lt
        obtain ⟨p1, p2, p3, p4⟩ := flt (x := 5) (K := up K 97 18 (nI E)) (s := E) (by rw [up_nk (by decide)]; exact h12) up_at (by decide) (by decide)
        refine ⟨5, E, W, I, _, J, by decide, by decide, ?_, ?_, Lc.refl _, (((Lm.refl K).fk (k := 18) (v := nI E) (by decide)).trans (p4.lm (by decide))), UJ.refl _, p3⟩
        · rw [if_pos lt', lb_17_7, if_neg (show ¬ (5 : Int32) = 0 by decide), lb_17_9, hCT.2.1, sE]
          rfl
        · rw [if_pos lt', show f_144 (5 : Int32) (up K 97 18 (nI E)) = _ from p1, Option.bind_some]
          exact m162_6 p2 (by decide) (by decide)
      · left
        have lt' : ¬ nI (q 0) < nI (q 1) := fun z => lt ((ltN (by omega) (by omega)).mp z)
        refine ⟨s, W, I, K, J, q, g, D, R, A, B, Kd, Sd, ?_, by rw [if_neg lt'], Lc.refl _, Lm.refl _, UJ.refl _, h12, hq, hr, by omega, by omega⟩
        rw [if_neg lt', lb_17_7, if_pos z00, lb_17_9]
        rfl
    · have se := tk3 k0
      have l500 : nI n < (500 : Int32) := (ltN (b := 500) (by omega) (by decide)).mpr (by omega)
      have nk : ¬ I 60 5 = 0 := fun z => by
        rw [hCT.2.2.1] at z
        exact k0 ((eqN (b := 0) (by omega) (by decide)).mp z)
      have nk17 : ¬ K 97 17 = 0 := fun z => by
        rw [hMT.2.2.1] at z
        have z' := (eqN (b := 0) (by split <;> omega) (by decide)).mp z
        split at z' <;> omega
      have one : nI n + (1 : Int32) = nI (n + 1) := addN n 1
      have eX : fx (fun _ _ _ => none) bd_162_4 (m1' + 1) (nI E) K J = (f_161 K J).bind fun q34 => fx (fun _ _ _ => none) bd_162_4 m1' (nI E) q34.1 q34.2 := by
        rw [fx_s, bd_162_4, f145_y h12, Option.bind_some, if_neg (show ¬ nI 1 = 0 by decide), if_neg nk17]
      have hd : fx (fun _ _ _ _ => none) bd_17_1 (m' + 1) (nI 0) (nI n) I W = ((f_21 W).bind fun q4 => (if q4 = ((-1) : Int32) then (if isw W ∧ isw 5 then (if W = 5 then ((f_19 I W).bind fun q5 => fx (fun _ _ _ _ => none) bd_17_1 m' q5.1 (nI (n + 1)) q5.2.1 q5.2.2) else fx (fun _ _ _ _ => none) bd_17_1 m' (1 : Int32) (nI (n + 1)) I W) else none) else ((f_18 q4 I W).bind fun q6 => fx (fun _ _ _ _ => none) bd_17_1 m' q6.1 (nI (n + 1)) q6.2.1 q6.2.2))) := by
        rw [fx_s, bd_17_1, if_pos l500, if_pos z00, if_neg nk]
        unfold lb_17_4 lb_17_5
        rw [one]
      obtain ⟨w1, w2⟩ := wd21 W tk6.2 tk6.1
      obtain ⟨m'', rfl⟩ : ∃ k, m' = k + 1 := ⟨m' - 1, by omega⟩
      obtain ⟨m1'', rfl⟩ : ∃ k, m1' = k + 1 := ⟨m1' - 1, by omega⟩
      have go : ∀ (Y : Option (Int32 × (Nat → Nat → Int32) × Nat)), (LnA t E s I K J Y (f_161 K J) ∨ LnB I K J Y (f_161 K J)) → LLA I K J (Y.bind fun q6 => fx (fun _ _ _ _ => none) bd_17_1 (m'' + 1) q6.1 (nI (n + 1)) q6.2.1 q6.2.2) (fx (fun _ _ _ => none) bd_162_4 (m1'' + 1 + 1) (nI E) K J) ∨ LLB I K J (Y.bind fun q6 => fx (fun _ _ _ _ => none) bd_17_1 (m'' + 1) q6.1 (nI (n + 1)) q6.2.1 q6.2.2) (fx (fun _ _ _ => none) bd_162_4 (m1'' + 1 + 1) (nI E) K J) := by
        intro Y hY
        rw [eX]
        rcases hY with ⟨s', e', kd', v', sg', W', I', K', J', a1, a2, a3, a4, a5, a6, a7⟩ | ⟨r, s', W', I', K', J', a1, a2, a3, a4, a5, a6, a7, a8, a9, a10⟩
        · rw [a1, a2, Option.bind_some, Option.bind_some]
          rcases lines_s N s' e' kd' v' sg' W' (n + 1) (m'' + 1) (m1'' + 1) I' K' J' a7 (by omega) (by omega) (by omega) (by omega) with fin | fin
          · exact Or.inl (fin.step a4 a5 a6)
          · exact Or.inr (fin.step a4 a5 a6)
        · rw [a3, a4, Option.bind_some, Option.bind_some]
          exact Or.inr ⟨r, s', W', I', K', J', a1, a2, c17_r a1 a2 a8, m162_r a9 a1 a2, a5, a6, a7, a10⟩
      rw [hd]
      by_cases k4 : W ≤ 4
      · obtain ⟨x1, x2⟩ := w1 k4
        have kd1 : kd = 1 := by
          by_cases z : kd = 1
          · exact z
          · have := tk8 z
            omega
        subst kd1
        obtain rfl : sg = 0 := tk9 (by decide)
        obtain ⟨x, rfl⟩ : ∃ x, W = x + 1 := ⟨W - 1, by omega⟩
        rw [x1, Option.bind_some, if_neg x2, show x + 1 - 1 = x from rfl]
        exact go _ (num_line (by omega) h0)
      · have x1 := w2 (by omega)
        rw [x1, Option.bind_some, if_pos rfl, if_pos (show isw W ∧ isw 5 from ⟨tk6, by decide⟩)]
        by_cases k5 : W = 5
        · subst k5
          have kd1 : kd = 1 := by
            by_cases z : kd = 1
            · exact z
            · have := tk8 z
              omega
          subst kd1
          obtain rfl : sg = 0 := tk9 (by decide)
          rw [if_pos rfl]
          exact go _ (deal_line h0)
        · rw [if_neg k5]
          refine go (some (nI 1, I, W)) (Or.inr ?_)
          obtain ⟨y1, y2, y3, y4, y5⟩ := wd5 W tk6.2 (by omega)
          obtain ⟨p1, p2, p3, p4⟩ := flt (x := 1) h12 hMT.2.1 (by decide) (by decide)
          refine ⟨1, s, W, I, _, J, by decide, by decide, rfl, ?_, Lc.refl _, p4.lm (by decide), UJ.refl _, hCT.2.1, p2, p3⟩
          rw [f_161, f143_s hMT, Option.bind_some, if_neg y1, if_neg y2, if_neg y3, if_neg y4, if_neg y5, show f_144 (1 : Int32) K = _ from p1, Option.bind_some]
          exact l17_x p2 (by decide) (by decide)
end LL
