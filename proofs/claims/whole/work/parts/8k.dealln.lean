/-! a line that tells a deal, whole -/
section DM
variable {t : Nat → Nat} {E s e kd v sg W r D : Nat} {I K : Nat → Nat → Int32} {J : Nat → Nat → Int64}
theorem deal_line (h : LB t E s e 1 v 0 5 I K J) : LnA t E s I K J (f_19 I 5) (f_161 K J) ∨ LnB I K J (f_19 I 5) (f_161 K J) := by
  obtain ⟨hTC, hWZ, hWC, hTN, hCT, hTM, hMT, h12, hTok, hEn, ⟨q, g, hq, hg⟩, D, R, A, B, Kd, Sd, hr⟩ := h
  obtain ⟨tk1, tk2, tk3, tk4, tk5, tk6, tk7, tk8, tk9⟩ := id hTok
  have hE := hTC.1
  have mono := hr.mono
  obtain ⟨r1, r2, r3, r4, r5, r6, r7, r8, r9, r10⟩ := id hr
  have e161 : f_161 K J = (if (K 97 25) = (8 : Int32) then ((f_144 (2 : Int32) K).bind fun q20 => (lb_161_5 q20 J)) else (lb_161_5 K J)) := by
    rw [f_161, f143_s hMT, Option.bind_some, if_neg (show ¬ mw 5 = (3 : Int32) by decide), if_neg (show ¬ mw 5 = (2 : Int32) by decide), if_neg (show ¬ mw 5 = (6 : Int32) by decide), if_neg (show ¬ mw 5 = (1 : Int32) by decide), if_pos (show mw 5 = 0 from rfl)]
  rw [e161, r8]
  by_cases d8 : D = 8
  · right
    subst d8
    obtain ⟨f1, f2, f3, f4⟩ := flt (x := 2) h12 hMT.2.1 (by decide) (by decide)
    refine ⟨2, s, 5, I, _, J, by decide, by decide, ?_, ?_, Lc.refl _, f4.lm (by decide), UJ.refl _, hCT.2.1, f2, f3⟩
    · rw [f_19, r6, if_neg (show ¬ nI 8 < (8 : Int32) by decide)]
      rfl
    · rw [if_pos (show nI 8 = (8 : Int32) from rfl), show f_144 (2 : Int32) K = _ from f1, Option.bind_some, lb_161_5, f145_n f2 (by decide) (by decide), Option.bind_some, if_pos (show nI 0 = 0 from rfl)]
  · have hD : D < 8 := by omega
    rw [if_neg (show ¬ nI D = (8 : Int32) from fun z => d8 ((eqN (b := 8) (by omega) (by decide)).mp z))]
    obtain ⟨s1, e1, kd1, v1, sg1, W1, I1, K1, J1, a1, a2, a3, a4, a5, a6, a7, a8, a9⟩ := tok_s hTC hWZ hCT hTM hMT tk2 5
    have uI1 : Lc I I1 := a7.l
    have uK1 : Lm K K1 := a8.lm (by decide)
    have c1 : K1 97 12 = nI 0 := by rw [a8.2 12 (by decide)]; exact h12
    have d1 : K1 97 25 = nI D := by rw [a8.2 25 (by decide)]; exact r8
    have w1 := a5.2.2.2.2.2.1
    have eY1 : f_19 I 5 = ((f_22 W1).bind fun q2 => (if q2 = ((-1) : Int32) then (some ((1 : Int32), I1, W1)) else ((f_72 I1 W1).bind fun q3 => ((f_23 q3.2).bind fun q4 => (if q4 = ((-1) : Int32) then (some ((1 : Int32), q3.1, q3.2)) else ((f_72 q3.1 q3.2).bind fun q5 => (if isw q5.2 ∧ isw 13 then (if q5.2 = 13 then ((f_72 q5.1 q5.2).bind fun q6 => ((f_25 (q6.1 62 6) q6.1 q6.2).bind fun q7 => (if q7.1 = 0 then (let I8 := putf q7.2.1 65 8 (q7.2.1 62 6) q2
  (let I9 := putf I8 66 8 (I8 62 6) q4
  (let I10 := up I9 62 6 ((I9 62 6) + (1 : Int32))
  ((f_20 I10 q7.2.2).bind fun q11 => (some (q11.1, q11.2.1, q11.2.2)))))) else (some (q7.1, q7.2.1, q7.2.2))))) else (some ((1 : Int32), q5.1, q5.2))) else none))))))) := by
      rw [f_19, r6, if_pos (show nI D < (8 : Int32) from (ltN (b := 8) (by omega) (by decide)).mpr hD), a1, Option.bind_some]
    have eX1 : lb_161_5 K J = (if mw W1 < (7 : Int32) then (lb_161_7 (mw W1) K1 J1) else (if (9 : Int32) < mw W1 then (lb_161_7 (mw W1) K1 J1) else (lb_161_8 (mw W1) (1 : Int32) K1 J1))) := by
      rw [lb_161_5, f145_y h12, Option.bind_some, if_neg (show ¬ nI 1 = 0 by decide), a2, Option.bind_some]
      dsimp only
      rw [f143_s a4, Option.bind_some]
    rw [eY1, eX1]
    by_cases k1 : 8 ≤ W1 ∧ W1 ≤ 10
    · obtain ⟨x1, x2, x3, x4, x5⟩ := wd22a W1 k1.2 k1.1
      obtain ⟨s2, e2, kd2, v2, sg2, W2, I2, K2, J2, b1, b2, b3, b4, b5, b6, b7, b8, b9⟩ := tok_s (hTC.l uI1) (hWZ.l uI1) a3 (hTM.l uK1) a4 a5.2.1 W1
      have uI2 : Lc I I2 := uI1.trans b7.l
      have uK2 : Lm K K2 := uK1.trans (b8.lm (by decide))
      have c2 : K2 97 12 = nI 0 := by rw [b8.2 12 (by decide)]; exact c1
      have d2 : K2 97 25 = nI D := by rw [b8.2 25 (by decide)]; exact d1
      have w2 := b5.2.2.2.2.2.1
      rw [x1, Option.bind_some, if_neg x2, b1, Option.bind_some, if_neg x3, if_neg x4]
      dsimp only
      have eX2 : lb_161_8 (mw W1) (1 : Int32) K1 J1 = lb_161_10 (mw W1) (mw W2) K2 J2 := by
        rw [lb_161_8, f147_1 c1, b2, Option.bind_some]
        dsimp only
        rw [f145_y c2, Option.bind_some, if_neg (show ¬ nI 1 = 0 by decide), f143_s b4, Option.bind_some]
      rw [eX2]
      by_cases k2 : 11 ≤ W2 ∧ W2 ≤ 12
      · obtain ⟨y1, y2, y3, y4⟩ := wd23a W2 k2.2 k2.1
        obtain ⟨s3, e3, kd3, v3, sg3, W3, I3, K3, J3, g1, g2, g3, g4, g5, g6, g7, g8, g9⟩ := tok_s (hTC.l uI2) (hWZ.l uI2) b3 (hTM.l uK2) b4 b5.2.1 W2
        have uI3 : Lc I I3 := uI2.trans g7.l
        have uK3 : Lm K K3 := uK2.trans (g8.lm (by decide))
        have c3 : K3 97 12 = nI 0 := by rw [g8.2 12 (by decide)]; exact c2
        have d3 : K3 97 25 = nI D := by rw [g8.2 25 (by decide)]; exact d2
        have w3 := g5.2.2.2.2.2.1
        rw [y1, Option.bind_some, if_neg y2, g1, Option.bind_some]
        dsimp only
        have eX3 : lb_161_10 (mw W1) (mw W2) K2 J2 = (if mw W3 = (12 : Int32) then (lb_161_15 (mw W1) (mw W2) (1 : Int32) K3 J3) else (lb_161_14 (mw W1) (mw W2) K3 J3)) := by
          have t13 : lb_161_13 (mw W1) (mw W2) (1 : Int32) K2 J2 = (if mw W3 = (12 : Int32) then (lb_161_15 (mw W1) (mw W2) (1 : Int32) K3 J3) else (lb_161_14 (mw W1) (mw W2) K3 J3)) := by
            rw [lb_161_13, f147_1 c2, g2, Option.bind_some]
            dsimp only
            rw [f145_y c3, Option.bind_some, if_neg (show ¬ nI 1 = 0 by decide), f143_s g4, Option.bind_some]
          rw [lb_161_10, lb_161_11, t13]
          rcases y3 with y3 | y3
          · rw [if_pos y3]
          · rw [if_pos y3, ite_self]
        rw [eX3, if_pos (show isw W3 ∧ isw 13 from ⟨w3, by decide⟩)]
        have i13 := wd13 W3 w3.2 w3.1
        by_cases k3 : W3 = 13
        · rw [if_pos k3, if_pos (i13.mpr k3)]
          obtain ⟨s4, e4, kd4, v4, sg4, W4, I4, K4, J4, l1, l2, l3, l4, l5, l6, l7, l8, l9⟩ := tok_s (hTC.l uI3) (hWZ.l uI3) g3 (hTM.l uK3) g4 g5.2.1 W3
          have uI4 : Lc I I4 := uI3.trans l7.l
          have uK4 : Lm K K4 := uK3.trans (l8.lm (by decide))
          have c4 : K4 97 12 = nI 0 := by rw [l8.2 12 (by decide)]; exact c3
          have d4 : K4 97 25 = nI D := by rw [l8.2 25 (by decide)]; exact d3
          have i29 : K4 97 29 = nI (B D) := by rw [l8.2 29 (by decide), g8.2 29 (by decide), b8.2 29 (by decide), a8.2 29 (by decide)]; exact r9
          have sI : ∀ a, a ≠ 60 → I4 a = I a := fun a ha => by
            have n : a ∉ [60] := by simpa using ha
            rw [l7.1 a n, g7.1 a n, b7.1 a n, a7.1 a n]
          have sK : ∀ a, a ≠ 97 → K4 a = K a := fun a ha => by
            have n : a ∉ [97] := by simpa using ha
            rw [l8.1 a n, g8.1 a n, b8.1 a n, a8.1 a n]
          have i626 : I4 62 6 = nI D := by rw [sI 62 (by decide)]; exact r6
          rw [l1, Option.bind_some, l15_s d4 hD (by rw [f147_1 c3]; exact l2)]
          dsimp only
          rw [i626, x5, y4]
          have uK5 : Lm K (dlw K4 D (nI (W1 - 8)) (nI (W2 - 11))) := uK4.trans dlw_m
          have bnd : s < s4 := by
            have := tk3 (by decide)
            have := a5.1
            have := b5.1
            have := g5.1
            omega
          have res := rule_s (t := t) (E := E) (a0 := A D) (b0 := B D) (D := D) (J := J4) hD (hTC.l uI4) (hWZ.l uI4) (hWC.l uI4) l3 (by rw [sI 67 (by decide)]; exact r7) (hTM.l uK5) (l4.fr2 (fun x h1 h2 => dlw_k (by omega))) (by rw [dlw_k (by decide)]; exact c4) (by rw [dlw_k (by decide)]; exact i29) l5 (by omega) (by omega)
          rcases res with ⟨P, s5, e5, v5, W5, I5, K5, J5, o1, o2, o3, o4, o5, o6, o7, o8, o9, o10, o11, o12, o13, o14, o15, o16, o17⟩ | ⟨rr, s5, e5, kd5, v5, sg5, W5, I5, K5, J5, o1, o2, o3, o4, o5, o6, o7, o8, o9⟩
          · rw [o1, o2, Option.bind_some, Option.bind_some, if_pos rfl]
            dsimp only
            have i62 : (up I5 69 D (nI (A D + P.length))) 62 6 = nI D := by rw [up_ne (by decide), o3.1 62 (by decide)]; exact i626
            have i62b : (up (up I5 69 D (nI (A D + P.length))) 65 D (nI (W1 - 8))) 62 6 = nI D := by rw [up_ne (by decide)]; exact i62
            have i62c : (up (up (up I5 69 D (nI (A D + P.length))) 65 D (nI (W1 - 8))) 66 D (nI (W2 - 11))) 62 6 = nI D := by rw [up_ne (by decide)]; exact i62b
            have one : nI D + (1 : Int32) = nI (D + 1) := addN D 1
            rw [i62, puN hD (by decide), i62b, puN hD (by decide), i62c, one]
            have uI6 : Lc I (up (up (up (up I5 69 D (nI (A D + P.length))) 65 D (nI (W1 - 8))) 66 D (nI (W2 - 11))) 62 6 (nI (D + 1))) := ((((uI4.trans o3.l).ar (by decide)).ar (by decide)).ar (by decide)).ar (by decide)
            generalize hI6 : up (up (up (up I5 69 D (nI (A D + P.length))) 65 D (nI (W1 - 8))) 66 D (nI (W2 - 11))) 62 6 (nI (D + 1)) = I6 at uI6
            have uK6 : Lm K K5 := uK5.trans o4.l
            have ct6 : CT s5 e5 3 v5 59 I6 := by
              unfold CT
              rw [← hI6, up_ne (by decide), up_ne (by decide), up_ne (by decide), up_ne (by decide)]
              exact o6
            rcases semi_s (hTC.l uI6) (hWZ.l uI6) ct6 (hTM.l uK6) o7 o11 o8 with ⟨_, s6, e6, kd6, v6, sg6, W6, I7, K7, J7, z1, z2, z3, z4, z5, z6, z7, z8, z9, z10⟩ | ⟨z0, _⟩
            · left
              have uI7 : Lc I I7 := uI6.trans z7.l
              have uK7 : Lm K K7 := uK6.trans (z8.lm (by decide))
              have se5 := o8.2.2.1 (by decide)
              have sI5 : ∀ a, a ∉ [60, 67, 68, 70, 71] → I5 a = I a := fun a ha => by
                rw [o3.1 a ha]
                exact sI a (fun z => ha (by rw [z]; decide))
              have fr97 : ∀ k, k ∉ [12, 13, 16, 17, 18, 19, 20, 21, 29, 30, 31] → k ≠ 25 → K7 97 k = K 97 k := fun k h1 h2 => by
                have n6 : k ∉ [16, 17, 18, 19, 20, 21] := fun z => h1 (by revert z; simp; omega)
                rw [z8.2 k n6, o4.2.1 k h1, dlw_k h2, l8.2 k n6, g8.2 k n6, b8.2 k n6, a8.2 k n6]
              refine ⟨s6, e6, kd6, v6, sg6, W6, I7, K7, J7, by rw [z1]; rfl, z2, ?_, uI7, uK7, ((((a9.trans b9).trans g9).trans l9).trans o5).trans z9, hTC.l uI7, hWZ.l uI7, hWC.l uI7, hTN.l uI7, z3, hTM.l uK7, z4, by rw [z8.2 12 (by decide)]; exact o11, z5, z10, ⟨q, g, fun i hi => ?_, ?_⟩, D + 1, _, _, _, _, _, hr.push (P := P) (k := W1 - 8) (y := W2 - 11) (a := 0) hD (by omega) (by omega) o14 ?_ ?_ ?_ ?_ ?_ ?_ ?_ ?_ ?_ ?_ ?_ ?_ ?_ ?_ ?_ ?_⟩
              · omega
              · obtain ⟨h1, h2, h3, h4, h5, h6⟩ := hq i hi
                obtain ⟨wi1, wi2, wi3, wi4, wi5, wi6, wi7, wi8, wi9, wi10, wi11, wi12, wi13, wi14⟩ := mw_bt i hi
                have e63 : I7 63 = I 63 := by rw [z7.1 63 (by decide), ← hI6, up_ne (by decide), up_ne (by decide), up_ne (by decide), up_ne (by decide), sI5 63 (by decide)]
                have e64 : I7 64 = I 64 := by rw [z7.1 64 (by decide), ← hI6, up_ne (by decide), up_ne (by decide), up_ne (by decide), up_ne (by decide), sI5 64 (by decide)]
                have ff : ∀ i, i < 4 → fld i ∉ [12, 13, 16, 17, 18, 19, 20, 21, 29, 30, 31] := by decide
                rw [e63, e64, fr97 _ (ff i hi) wi9]
                exact ⟨h1, h2, h3, h4, h5, h6⟩
              · rw [fr97 28 (by decide) (by decide)]; exact hg
              · omega
              · omega
              · rw [z7.1 62 (by decide), ← hI6, up_at]
              · rw [z7.1 67 (by decide), ← hI6, up_ne (by decide), up_ne (by decide), up_ne (by decide), up_ne (by decide)]; exact o9
              · rw [z7.1 65 (by decide), ← hI6, up_ne (by decide), up_ne (by decide)]
                funext j
                rw [up_eq, up_eq, up_ne (by decide), sI5 65 (by decide)]
              · rw [z7.1 66 (by decide), ← hI6, up_ne (by decide)]
                funext j
                rw [up_eq, up_eq, up_ne (by decide), up_ne (by decide), sI5 66 (by decide)]
              · rw [z7.1 69 (by decide), ← hI6, up_ne (by decide), up_ne (by decide), up_ne (by decide)]
                funext j
                rw [up_eq, up_eq, sI5 69 (by decide)]
              · intro x hx
                rw [z7.1 68 (by decide), ← hI6, up_ne (by decide), up_ne (by decide), up_ne (by decide), up_ne (by decide), o3.2.2 x hx, sI 68 (by decide)]
              · rw [z7.1 68 (by decide), ← hI6, up_ne (by decide), up_ne (by decide), up_ne (by decide), up_ne (by decide)]; exact o10
              · rw [z8.2 25 (by decide), o4.2.1 25 (by decide), dlw, up_at]
              · rw [z8.2 29 (by decide)]; exact o12
              · rw [z8.1 104 (by decide), o4.1 104 (by decide), dlw, up_ne (by decide), up_ne (by decide), up_ne (by decide)]
                funext j
                rw [up_eq, up_eq, sK 104 (by decide)]
              · rw [z8.1 105 (by decide), o4.1 105 (by decide), dlw, up_ne (by decide), up_ne (by decide)]
                funext j
                rw [up_eq, up_eq, up_ne (by decide), sK 105 (by decide)]
              · rw [z8.1 106 (by decide), o4.1 106 (by decide), dlw, up_ne (by decide)]
                funext j
                rw [up_eq, up_eq, up_ne (by decide), up_ne (by decide), sK 106 (by decide), i29]
              · intro x hx
                rw [z8.1 107 (by decide), o4.2.2.1 x hx, dlw, up_ne (by decide), up_ne (by decide), up_ne (by decide), up_ne (by decide), sK 107 (by decide)]
              · rw [z8.1 107 (by decide)]; exact o13
            · exact absurd rfl z0
          · right
            rw [o3, o4, Option.bind_some, Option.bind_some, if_neg (show ¬ nI rr = 0 from fun z => by have := (eqN (b := 0) (by omega) (by decide)).mp z; omega)]
            dsimp only
            have jj := (((a9.trans b9).trans g9).trans l9).trans o7
            rcases o9 with ⟨p1, p2⟩ | ⟨rfl, p1, p2, p3, p4⟩
            · exact ⟨rr, s5, W5, I5, K5, J5, o1, o2, rfl, l17_x p1 o1 o2, uI4.trans o5.l, uK5.trans o6.l, jj, o8.2.1, p1, p2⟩
            · have uI5 : Lc I I5 := uI4.trans o5.l
              have uK6 : Lm K K5 := uK5.trans o6.l
              rcases semi_s (hTC.l uI5) (hWZ.l uI5) o8 (hTM.l uK6) p2 p1 p3 with ⟨z, _⟩ | ⟨_, z1, z2⟩
              · exact absurd z p4
              · obtain ⟨f1, f2, f3, f4⟩ := flt (x := 1) p1 p2.2.1 (by decide) (by decide)
                exact ⟨1, s5, W5, I5, _, J5, by decide, by decide, rfl, z2, uI5, uK6.trans (f4.lm (by decide)), jj, o8.2.1, f2, f3⟩
        · right
          rw [if_neg k3, if_neg (fun z => k3 (i13.mp z)), lb_161_14]
          obtain ⟨f1, f2, f3, f4⟩ := flt (x := 1) c3 g4.2.1 (by decide) (by decide)
          have e147 := f147_0 (J := J3) c3 g4.2.1
          generalize up (up K3 97 12 (nI 1)) 97 13 (nI s3) = K4 at f1 f2 f3 f4 e147
          have d4 : K4 97 25 = nI D := by rw [f4.1.2 25 (by decide)]; exact d3
          obtain ⟨K', o1, o2, o3, o4⟩ := m15 (J := J3) (x2 := mw W1) (x3 := mw W2) (s1 := 0) f2 (by decide) (by decide) d4 hD
          rw [l15_s d4 hD (f147_x f2 (by decide) (by decide))] at o1
          refine ⟨1, s3, W3, I3, K', J3, by decide, by decide, rfl, ?_, uI3, (uK3.trans (f4.lm (by decide))).trans o4, (a9.trans b9).trans g9, g3.2.1, o2, by rw [o3]; exact f3⟩
          rw [l15_s d4 hD e147]
          exact o1
      · right
        obtain ⟨y1, y2, y3⟩ := wd23b W2 w2.2 w2.1 k2
        rw [y1, Option.bind_some, if_pos rfl]
        obtain ⟨f1, f2, f3, f4⟩ := flt (x := 1) c2 b4.2.1 (by decide) (by decide)
        have e147 := f147_0 (J := J2) c2 b4.2.1
        generalize up (up K2 97 12 (nI 1)) 97 13 (nI s2) = K4 at f1 f2 f3 f4 e147
        have d4 : K4 97 25 = nI D := by rw [f4.1.2 25 (by decide)]; exact d2
        obtain ⟨K', o1, o2, o3, o4⟩ := m15 (J := J2) (x2 := mw W1) (x3 := mw W2) (s1 := 0) f2 (by decide) (by decide) d4 hD
        refine ⟨1, s2, W2, I2, K', J2, by decide, by decide, rfl, ?_, uI2, (uK2.trans (f4.lm (by decide))).trans o4, a9.trans b9, b3.2.1, o2, by rw [o3]; exact f3⟩
        rw [lb_161_10, if_neg y2, if_neg y3, lb_161_13, e147, Option.bind_some]
        dsimp only
        rw [f145_n f2 (by decide) (by decide), Option.bind_some, if_pos (show nI 0 = 0 from rfl), lb_161_14]
        exact o1
    · right
      obtain ⟨x1, x2⟩ := wd22b W1 w1.2 w1.1 k1
      rw [x1, Option.bind_some, if_pos rfl]
      obtain ⟨f1, f2, f3, f4⟩ := flt (x := 1) c1 a4.2.1 (by decide) (by decide)
      have e147 := f147_0 (J := J1) c1 a4.2.1
      generalize up (up K1 97 12 (nI 1)) 97 13 (nI s1) = K4 at f1 f2 f3 f4 e147
      have d4 : K4 97 25 = nI D := by rw [f4.1.2 25 (by decide)]; exact d1
      obtain ⟨K', o1, o2, o3, o4⟩ := m15 (J := J1) (x2 := mw W1) (x3 := -1) (s1 := 0) f2 (by decide) (by decide) d4 hD
      have t7 : lb_161_7 (mw W1) K1 J1 = some (K', J1) := by
        rw [lb_161_7, lb_161_8, e147, Option.bind_some]
        dsimp only
        rw [f145_n f2 (by decide) (by decide), Option.bind_some, if_pos (show nI 0 = 0 from rfl)]
        rw [show lb_161_10 (mw W1) ((-1) : Int32) K4 J1 = lb_161_10 (mw W1) (-1) K4 J1 from rfl, m10 f2 (by decide) (by decide)]
        exact o1
      refine ⟨1, s1, W1, I1, K', J1, by decide, by decide, rfl, ?_, uI1, (uK1.trans (f4.lm (by decide))).trans o4, a9, a3.2.1, o2, by rw [o3]; exact f3⟩
      rw [t7]
      rcases x2 with x2 | x2
      · rw [if_pos x2]
      · rw [if_pos x2, ite_self]
end DM
