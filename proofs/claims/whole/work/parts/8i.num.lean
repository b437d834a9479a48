/-! a line that tells a number -/
def bt (i : Nat) : Nat := [3, 2, 6, 1].getD i 0
theorem mw_bt : ∀ x, x < 4 → mw (x + 1) = nI (bt x) ∧ bt x < 10 ∧ lo x ≤ 60 ∧ hi x ≤ 60 ∧ fld x ∈ [16, 17, 18, 19, 20, 21, 23, 24, 25, 26, 27, 28, 29, 30, 31] ∧ fld x ≠ 12 ∧ fld x ≠ 13 ∧ ¬ (16 ≤ fld x ∧ fld x ≤ 21) ∧ fld x ≠ 25 ∧ fld x ≠ 28 ∧ fld x ≠ 29 ∧ (∀ y, y < 4 → y ≠ x → fld y ≠ fld x) ∧ fld x ∉ [12, 13, 16, 17, 18, 19, 20, 21] ∧ fld x ≠ 16 := by decide +kernel
theorem bits4 : ∀ a, a < 2 → ∀ b, b < 2 → ∀ c, c < 2 → ∀ d, d < 2 → ∀ x, x < 4 → ((nI (a * 8 + b * 4 + c * 64 + d * 2) >>> (nI (bt x) &&& 31)) &&& 1) = nI ([a, b, c, d].getD x 0) ∧ (nI (a * 8 + b * 4 + c * 64 + d * 2) ||| ((1 : Int32) <<< (nI (bt x) &&& 31))) = nI (gb (fun i => if i = x then 1 else [a, b, c, d].getD i 0)) := by decide +kernel
theorem bitsg {g : Nat → Nat} {x : Nat} (hg : ∀ i, i < 4 → g i < 2) (hx : x < 4) : ((nI (gb g) >>> (nI (bt x) &&& 31)) &&& 1) = nI (g x) ∧ (nI (gb g) ||| ((1 : Int32) <<< (nI (bt x) &&& 31))) = nI (gb (fun i => if i = x then 1 else g i)) := by
  obtain ⟨a, b⟩ := bits4 (g 0) (hg 0 (by decide)) (g 1) (hg 1 (by decide)) (g 2) (hg 2 (by decide)) (g 3) (hg 3 (by decide)) x hx
  have gx : [g 0, g 1, g 2, g 3].getD x 0 = g x := by
    have : x = 0 ∨ x = 1 ∨ x = 2 ∨ x = 3 := by omega
    rcases this with rfl | rfl | rfl | rfl <;> rfl
  rw [gx] at a
  exact ⟨a, b⟩
section NL
variable {t : Nat → Nat} {E s e kd v sg W r x : Nat} {I K : Nat → Nat → Int32} {J : Nat → Nat → Int64}
theorem m161_n (hx : x < 4) (hMT : MT s e kd v sg (x + 1) K J) : f_161 K J = (f_160 (nI (bt x)) K J).bind fun q => (if q.1 = 0 then lb_161_17 q.2.1 q.2.2 else ((f_148 (nI (lo x)) (nI (hi x)) q.2.1 q.2.2).bind fun q31 => lb_161_17 (up q31.2.1 97 (fld x) q31.1) q31.2.2)) := by
  have h := f143_s hMT
  rw [(mw_bt x hx).1] at h
  have : x = 0 ∨ x = 1 ∨ x = 2 ∨ x = 3 := by omega
  rw [f_161, h, Option.bind_some]
  rcases this with rfl | rfl | rfl | rfl
  · rw [if_pos (show nI (bt 0) = (3 : Int32) from rfl)]
    rfl
  · rw [if_neg (show ¬ nI (bt 1) = (3 : Int32) by decide), if_pos (show nI (bt 1) = (2 : Int32) from rfl)]
    rfl
  · rw [if_neg (show ¬ nI (bt 2) = (3 : Int32) by decide), if_neg (show ¬ nI (bt 2) = (2 : Int32) by decide), if_pos (show nI (bt 2) = (6 : Int32) from rfl)]
    rfl
  · rw [if_neg (show ¬ nI (bt 3) = (3 : Int32) by decide), if_neg (show ¬ nI (bt 3) = (2 : Int32) by decide), if_neg (show ¬ nI (bt 3) = (6 : Int32) by decide), if_pos (show nI (bt 3) = (1 : Int32) from rfl)]
    rfl
/-- a fault at the number -/
theorem m148_b {a b : Int32} (h12 : K 97 12 = nI 0) (h18 : K 97 18 = nI s) (hf : fld x ∉ [12, 13, 16, 17, 18, 19, 20, 21]) (hf2 : fld x ∈ [16, 17, 18, 19, 20, 21, 23, 24, 25, 26, 27, 28, 29, 30, 31]) (h0 : 0 < r) (hr : r < 10) (he : f_148 a b K J = (f_144 (nI r) K).bind fun q2 => lb_148_4 q2 J) : ∃ K', ((f_148 a b K J).bind fun q31 => lb_161_17 (up q31.2.1 97 (fld x) q31.1) q31.2.2) = some (K', J) ∧ K' 97 12 = nI r ∧ K' 97 13 = nI s ∧ Lm K K' := by
  obtain ⟨f1, f2, f3, f4⟩ := flt (x := r) h12 h18 h0 hr
  generalize up (up K 97 12 (nI r)) 97 13 (nI s) = K1 at f1 f2 f3 f4
  have n12 : (12 : Nat) ≠ fld x := fun z => hf (by rw [← z]; decide)
  have n13 : (13 : Nat) ≠ fld x := fun z => hf (by rw [← z]; decide)
  have g12 : (up K1 97 (fld x) (K1 97 20)) 97 12 = nI r := by rw [up_nk n12]; exact f2
  refine ⟨up K1 97 (fld x) (K1 97 20), ?_, g12, by rw [up_nk n13]; exact f3, (f4.lm (by decide)).fk hf2⟩
  rw [he, f1, Option.bind_some, lb_148_4, f145_n f2 h0 hr, Option.bind_some, if_pos (show nI 0 = 0 from rfl), lb_148_5, Option.bind_some]
  exact l17_x g12 h0 hr
theorem f122_s {a b c : Nat} (ha : a < 10000) (hb : b < 10000) (hc : c < 10000) : f_122 (nI a) (nI b) (nI c) = some (nI (if b ≤ a ∧ a ≤ c then 1 else 0)) := by
  unfold f_122 lb_122_1 lb_122_2
  by_cases q : a < b
  · rw [if_pos ((ltN (by omega) (by omega)).mpr q), if_neg (show ¬ (b ≤ a ∧ a ≤ c) by omega)]
    rfl
  · rw [if_neg (fun z => q ((ltN (by omega) (by omega)).mp z))]
    by_cases q' : c < a
    · rw [if_pos ((ltN (by omega) (by omega)).mpr q'), if_neg (show ¬ (b ≤ a ∧ a ≤ c) by omega)]
      rfl
    · rw [if_neg (fun z => q' ((ltN (by omega) (by omega)).mp z)), if_pos (show b ≤ a ∧ a ≤ c by omega)]
      rfl
theorem CT.f75 (k : CT s e 2 v sg I) (hs : s ≤ e) (he : e ≤ 500) : f_75 I = some (nI (if 4 < e - s then 1 else 0)) := by
  obtain ⟨k1, k2, k3, k4, k5⟩ := k
  rw [f_75, k3, if_pos (show nI 2 = (2 : Int32) from rfl), k1, k2, subN hs]
  by_cases q : 4 < e - s
  · rw [if_pos q, if_pos (show (4 : Int32) < nI (e - s) from (ltN (a := 4) (by decide) (by omega)).mpr q)]
    rfl
  · rw [if_neg q, if_neg (show ¬ (4 : Int32) < nI (e - s) from fun z => q ((ltN (a := 4) (by decide) (by omega)).mp z))]
    rfl
theorem LSr.same {s s' D : Nat} {R : Nat → List Int32} {A B Kd Sd : Nat → Nat} {I I' K K' : Nat → Nat → Int32} (h : LSr s D R A B Kd Sd I K) (hs : s ≤ s') (e62 : I' 62 6 = I 62 6) (e67 : I' 67 7 = I 67 7) (e65 : I' 65 = I 65) (e66 : I' 66 = I 66) (e69 : I' 69 = I 69) (e68 : I' 68 = I 68) (k25 : K' 97 25 = K 97 25) (k29 : K' 97 29 = K 97 29) (k104 : K' 104 = K 104) (k105 : K' 105 = K 105) (k106 : K' 106 = K 106) (k107 : K' 107 = K 107) : LSr s' D R A B Kd Sd I' K' := by
  obtain ⟨h1, h2, h3, h4, h5, h6, h7, h8, h9, h10⟩ := h
  refine ⟨h1, h2, h3, by omega, by omega, by rw [e62]; exact h6, by rw [e67]; exact h7, by rw [k25]; exact h8, by rw [k29]; exact h9, fun d hd => ?_⟩
  rw [e65, e66, e69, e68, k104, k105, k106, k107]
  exact h10 d hd
theorem num_line (hx : x < 4) (h : LB t E s e 1 v 0 (x + 1) I K J) : LnA t E s I K J (f_18 (nI x) I (x + 1)) (f_161 K J) ∨ LnB I K J (f_18 (nI x) I (x + 1)) (f_161 K J) := by
  obtain ⟨hTC, hWZ, hWC, hTN, hCT, hTM, hMT, h12, hTok, hEn, ⟨q, g, hq, hg⟩, D, R, A, B, Kd, Sd, hr⟩ := h
  obtain ⟨tk1, tk2, tk3, tk4, tk5, tk6, tk7, tk8, tk9⟩ := id hTok
  have hE := hTC.1
  obtain ⟨q1, q2, q3, q4, q5, q6⟩ := hq x hx
  obtain ⟨w1, w2, w3, w4, w5, w6, w7, w8, w9, w10, w11, w12, w13, w14⟩ := mw_bt x hx
  obtain ⟨bg1, bg2⟩ := bitsg (fun i hi => (hq i hi).2.2.1) hx
  have n0 : ¬ nI x < 0 := negN (by omega)
  have l4 : nI x < nI 4 := (ltN (by omega) (by decide)).mpr hx
  have i4 : ex_in (nI x) 4 := (inN (by omega)).mpr hx
  have cl : (nI x).toNatClampNeg = x := clN (by omega)
  have q2' : I 64 (nI x).toNatClampNeg = nI (g x) := by rw [cl]; exact q2
  rw [m161_n hx hMT]
  by_cases gx : g x = 1
  · right
    obtain ⟨f1, f2, f3, f4⟩ := flt (x := 4) h12 hMT.2.1 (by decide) (by decide)
    generalize up (up K 97 12 (nI 4)) 97 13 (nI s) = K1 at f1 f2 f3 f4
    refine ⟨4, s, x + 1, I, up K1 97 28 ((K1 97 28) ||| ((1 : Int32) <<< (nI (bt x) &&& 31))), J, by decide, by decide, ?_, ?_, Lc.refl _, ?_, UJ.refl _, hCT.2.1, ?_, ?_⟩
    · rw [f_18, if_neg n0, if_pos l4, if_pos i4, if_neg (show ¬ I 64 (nI x).toNatClampNeg = 0 by rw [q2', gx]; decide)]
      rfl
    · have g12 : (up K1 97 28 ((K1 97 28) ||| ((1 : Int32) <<< (nI (bt x) &&& 31)))) 97 12 = nI 4 := by rw [up_nk (by decide)]; exact f2
      have e160 : f_160 (nI (bt x)) K J = some (nI 0, up K1 97 28 ((K1 97 28) ||| ((1 : Int32) <<< (nI (bt x) &&& 31))), J) := by
        rw [f_160, hg, bg1, gx, if_pos (show nI 1 = (1 : Int32) from rfl), show f_144 (4 : Int32) K = some K1 from f1, Option.bind_some, lb_160_1]
        try dsimp only
        rw [f145_n g12 (by decide) (by decide), Option.bind_some, if_pos (show nI 0 = 0 from rfl), lb_160_2, f145_n g12 (by decide) (by decide), Option.bind_some]
        rfl
      rw [e160, Option.bind_some, if_pos (show nI 0 = 0 from rfl)]
      exact l17_x g12 (by decide) (by decide)
    · exact (f4.lm (by decide)).fk (by decide)
    · rw [up_nk (by decide)]; exact f2
    · rw [up_nk (by decide)]; exact f3
  · have g0 : g x = 0 := by omega
    have uI1 : Lc I (up I 64 x (nI 1)) := (Lc.refl I).ar (by decide)
    obtain ⟨s2, e2, kd2, v2, sg2, W2, I2, a1, a2, a3, a4, a5⟩ := f72_s (x + 1) (hTC.l uI1) (hWZ.l uI1) (by rw [up_ne (by decide)]; exact hCT.1) tk2
    obtain ⟨b1, b2⟩ := a2.tok (fun x hx => (hTC.2.2 x hx).1) tk2
    have uI2 : Lc I I2 := uI1.trans a5.l
    have uK1 : Lm K (up K 97 28 (nI (gb (fun i => if i = x then 1 else g i)))) := (Lm.refl K).fk (by decide)
    obtain ⟨K2, J2, c1, c2, c3, c4⟩ := f140_s (J := J) (hTM.l uK1) (by rw [up_nk (by decide)]; exact hMT.1) tk2 a2
    have uK2 : Lm K K2 := uK1.trans (c3.lm (by decide))
    have k12 : K2 97 12 = nI 0 := by rw [c3.2 12 (by decide), up_nk (by decide)]; exact h12
    have e160 : f_160 (nI (bt x)) K J = some (nI 1, K2, J2) := by
      have z12 : (up K 97 28 (nI (gb (fun i => if i = x then 1 else g i)))) 97 12 = nI 0 := by rw [up_nk (by decide)]; exact h12
      rw [f_160, hg, bg1, g0, if_neg (show ¬ nI 0 = (1 : Int32) by decide), lb_160_1]
      try dsimp only
      rw [hg, bg2, f145_y z12, Option.bind_some, if_neg (show ¬ nI 1 = 0 by decide), c1, Option.bind_some, lb_160_2, f145_y k12, Option.bind_some]
      rfl
    have eX : ((f_160 (nI (bt x)) K J).bind fun q => (if q.1 = 0 then lb_161_17 q.2.1 q.2.2 else ((f_148 (nI (lo x)) (nI (hi x)) q.2.1 q.2.2).bind fun q31 => lb_161_17 (up q31.2.1 97 (fld x) q31.1) q31.2.2))) = ((f_148 (nI (lo x)) (nI (hi x)) K2 J2).bind fun q31 => lb_161_17 (up q31.2.1 97 (fld x) q31.1) q31.2.2) := by
      rw [e160, Option.bind_some, if_neg (show ¬ nI 1 = 0 by decide)]
    rw [eX]
    have eY : f_18 (nI x) I (x + 1) = (if (I2 60 5) = (2 : Int32) then ((f_75 I2).bind fun q3 => (if q3 = 0 then ((f_122 (I2 60 7) (atf (I2 53) 4 (nI x)) (atf (I2 54) 4 (nI x))).bind fun q4 => (if q4 = 0 then (lb_18_4 I2 W2) else (let I5 := putf I2 63 4 (nI x) (I2 60 7)
  ((f_72 I5 W2).bind fun q6 => ((f_20 q6.1 q6.2).bind fun q7 => (some (q7.1, q7.2.1, q7.2.2))))))) else (lb_18_4 I2 W2))) else (some ((1 : Int32), I2, W2))) := by
      rw [f_18, if_neg n0, if_pos l4, if_pos i4, if_pos (show I 64 (nI x).toNatClampNeg = 0 by rw [q2', g0]; rfl), if_pos i4, show vp_nar .boolean (1 : Int32) = nI 1 from rfl]
      dsimp only
      rw [cl, a1, Option.bind_some]
    rw [eY]
    obtain ⟨p1, p2, p3, p4, p5⟩ := id a3
    obtain ⟨m1, m2, m3, m4, m5, m6, m7, m8, m9⟩ := id c2
    obtain ⟨o1, o2, o3, o4, o5, o6, o7, o8, o9⟩ := id b1
    have g145 := f145_y k12
    have bad : ∀ r, 0 < r → r < 10 → f_148 (nI (lo x)) (nI (hi x)) K2 J2 = ((f_144 (nI r) K2).bind fun q2 => lb_148_4 q2 J2) → LnB I K J (some (nI r, I2, W2)) ((f_148 (nI (lo x)) (nI (hi x)) K2 J2).bind fun q31 => lb_161_17 (up q31.2.1 97 (fld x) q31.1) q31.2.2) := fun r h0 hr10 he => by
      obtain ⟨K', d1, d2, d3, d4⟩ := m148_b (x := x) k12 m2 w13 w5 h0 hr10 he
      exact ⟨r, s2, W2, I2, K', J2, h0, hr10, rfl, d1, uI2, uK2.trans d4, c4, p2, d2, d3⟩
    by_cases k2 : kd2 = 2
    · subst k2
      rw [if_neg (show ¬ (2 = 3 ∧ ¬ ksg sg2) from fun z => absurd z.1 (by decide))] at m3
      rw [p3, if_pos (show nI 2 = (2 : Int32) from rfl), a3.f75 o1 (by omega), Option.bind_some, b01]
      by_cases l5 : 4 < e2 - s2
      · right
        rw [if_pos l5]
        refine bad 2 (by decide) (by decide) ?_
        rw [f_148, g145, Option.bind_some, if_neg (show ¬ nI 1 = 0 by decide), m3, if_pos (show nI 2 = (2 : Int32) from rfl), m4, if_pos (show (4 : Int32) < nI (e2 - s2) from (ltN (a := 4) (by decide) (by omega)).mpr l5)]
        rfl
      · have tn := hTN.l uI2 x hx
        have l4' : ¬ (4 : Int32) < nI (e2 - s2) := fun z => l5 ((ltN (a := 4) (by decide) (by omega)).mp z)
        rw [if_neg l5, p4, atN hx (by decide), atN hx (by decide), tn.1, tn.2.1, f122_s o5 (by omega) (by omega), Option.bind_some, b01]
        by_cases rg : lo x ≤ v2 ∧ v2 ≤ hi x
        · rw [if_pos rg]
          dsimp only
          rw [puN hx (by decide)]
          have uI3 : Lc I (up I2 63 x (nI v2)) := uI2.ar (by decide)
          obtain ⟨s3, e3, kd3, v3, sg3, W3, I3, d1, d2, d3, d4, d5⟩ := f72_s W2 (hTC.l uI3) (hWZ.l uI3) (by rw [up_ne (by decide)]; exact p1) o2
          obtain ⟨t1, t2⟩ := d2.tok (fun x hx => (hTC.2.2 x hx).1) o2
          obtain ⟨K3, J3, y1, y2, y3, y4⟩ := f140_s (J := J2) (hTM.l uK2) m1 o2 d2
          have uI4 : Lc I I3 := uI3.trans d5.l
          have uK3 : Lm K (up K3 97 (fld x) (nI v2)) := (uK2.trans (y3.lm (by decide))).fk w5
          have z12 : (up K3 97 (fld x) (nI v2)) 97 12 = nI 0 := by rw [up_nk (Ne.symm w6), y3.2 12 (by decide)]; exact k12
          have mt3 : MT s3 e3 kd3 v3 sg3 W3 (up K3 97 (fld x) (nI v2)) J3 := y2.fr2 (fun k h1 h2 => by rw [up_nk (fun z => w8 (by omega))])
          have e148 : ((f_148 (nI (lo x)) (nI (hi x)) K2 J2).bind fun q31 => lb_161_17 (up q31.2.1 97 (fld x) q31.1) q31.2.2) = lb_161_17 (up K3 97 (fld x) (nI v2)) J3 := by
            rw [f_148, g145, Option.bind_some, if_neg (show ¬ nI 1 = 0 by decide), m3, if_pos (show nI 2 = (2 : Int32) from rfl), m4, if_neg l4', m5, if_neg (fun z => by have := (ltN (by omega) (by omega)).mp z; omega), if_neg (fun z => by have := (ltN (by omega) (by omega)).mp z; omega), lb_148_4, g145, Option.bind_some, if_neg (show ¬ nI 1 = 0 by decide), y1, Option.bind_some, m5]
            rfl
          rw [e148, d1, Option.bind_some]
          rcases semi_s (hTC.l uI4) (hWZ.l uI4) d3 (hTM.l uK3) mt3 z12 t1 with ⟨_, s4, e4, kd4, v4, sg4, W4, I4, K4, J4, r1, r2, r3, r4, r5, r6, r7, r8, r9, r10⟩ | ⟨_, r1, r2⟩
          · left
            have uI5 : Lc I I4 := uI4.trans r7.l
            have uK5 : Lm K K4 := uK3.trans (r8.lm (by decide))
            have i1 := tk3 (by decide)
            refine ⟨s4, e4, kd4, v4, sg4, W4, I4, K4, J4, by dsimp only; rw [r1]; rfl, r2, ?_, uI5, uK5, (c4.trans y4).trans r9, hTC.l uI5, hWZ.l uI5, hWC.l uI5, hTN.l uI5, r3, hTM.l uK5, r4, by rw [r8.2 12 (by decide)]; exact z12, r5, r10, ⟨fun i => if i = x then v2 else q i, fun i => if i = x then 1 else g i, fun i hi => ?_, ?_⟩, D, R, A, B, Kd, Sd, hr.same ?_ ?_ ?_ ?_ ?_ ?_ ?_ ?_ ?_ ?_ ?_ ?_ ?_⟩
            · have := t1.1; omega
            · obtain ⟨h1, h2, h3, h4, h5, h6⟩ := hq i hi
              obtain ⟨wi1, wi2, wi3, wi4, wi5, wi6, wi7, wi8, wi9, wi10, wi11, wi12, wi13, wi14⟩ := mw_bt i hi
              have e63 : I4 63 i = up I2 63 x (nI v2) 63 i := by rw [r7.1 63 (by decide), d5.1 63 (by decide)]
              have e64 : I4 64 i = up I 64 x (nI 1) 64 i := by rw [r7.1 64 (by decide), d5.1 64 (by decide), up_ne (by decide), a5.1 64 (by decide)]
              have ek : K4 97 (fld i) = up K3 97 (fld x) (nI v2) 97 (fld i) := r8.2 _ (fun z => wi13 (by revert z; simp; omega))
              dsimp only
              rw [e63, e64, ek]
              by_cases z : i = x
              · subst z
                rw [if_pos rfl, if_pos rfl, up_at, up_at, up_at]
                exact ⟨rfl, rfl, by decide, rg.1, rg.2, rfl⟩
              · rw [if_neg z, if_neg z, up_nk z, up_nk z, up_nk (w12 i hi z), a5.1 63 (by decide), up_ne (by decide), y3.2 _ (fun z => wi13 (by revert z; simp; omega)), c3.2 _ (fun z => wi13 (by revert z; simp; omega)), up_nk wi10]
                exact ⟨h1, h2, h3, h4, h5, h6⟩
            · rw [r8.2 28 (by decide), up_nk (Ne.symm w10), y3.2 28 (by decide), c3.2 28 (by decide), up_at]
            · have := t1.1; omega
            · rw [r7.1 62 (by decide), d5.1 62 (by decide), up_ne (by decide), a5.1 62 (by decide), up_ne (by decide)]
            · rw [r7.1 67 (by decide), d5.1 67 (by decide), up_ne (by decide), a5.1 67 (by decide), up_ne (by decide)]
            · rw [r7.1 65 (by decide), d5.1 65 (by decide), up_ne (by decide), a5.1 65 (by decide), up_ne (by decide)]
            · rw [r7.1 66 (by decide), d5.1 66 (by decide), up_ne (by decide), a5.1 66 (by decide), up_ne (by decide)]
            · rw [r7.1 69 (by decide), d5.1 69 (by decide), up_ne (by decide), a5.1 69 (by decide), up_ne (by decide)]
            · rw [r7.1 68 (by decide), d5.1 68 (by decide), up_ne (by decide), a5.1 68 (by decide), up_ne (by decide)]
            · rw [r8.2 25 (by decide), up_nk (Ne.symm w9), y3.2 25 (by decide), c3.2 25 (by decide), up_nk (by decide)]
            · rw [r8.2 29 (by decide), up_nk (Ne.symm w11), y3.2 29 (by decide), c3.2 29 (by decide), up_nk (by decide)]
            · rw [r8.1 104 (by decide), up_ne (by decide), y3.1 104 (by decide), c3.1 104 (by decide), up_ne (by decide)]
            · rw [r8.1 105 (by decide), up_ne (by decide), y3.1 105 (by decide), c3.1 105 (by decide), up_ne (by decide)]
            · rw [r8.1 106 (by decide), up_ne (by decide), y3.1 106 (by decide), c3.1 106 (by decide), up_ne (by decide)]
            · rw [r8.1 107 (by decide), up_ne (by decide), y3.1 107 (by decide), c3.1 107 (by decide), up_ne (by decide)]
          · right
            obtain ⟨f1, f2, f3, f4⟩ := flt (x := 1) z12 mt3.2.1 (by decide) (by decide)
            exact ⟨1, s3, W3, I3, _, J3, by decide, by decide, by dsimp only; rw [r1]; rfl, r2, uI4, uK3.trans (f4.lm (by decide)), c4.trans y4, d3.2.1, f2, f3⟩
        · right
          rw [if_neg rg]
          refine bad 2 (by decide) (by decide) ?_
          rw [f_148, g145, Option.bind_some, if_neg (show ¬ nI 1 = 0 by decide), m3, if_pos (show nI 2 = (2 : Int32) from rfl), m4, if_neg l4', m5]
          by_cases z : v2 < lo x
          · rw [if_pos ((ltN (by omega) (by omega)).mpr z)]
            rfl
          · rw [if_neg (fun y => z ((ltN (by omega) (by omega)).mp y)), if_pos ((ltN (by omega) (by omega)).mpr (by omega))]
            rfl
    · right
      have n2 : ¬ nI kd2 = (2 : Int32) := fun z => k2 ((eqN (b := 2) (by omega) (by decide)).mp z)
      have n2' : ¬ nI (if kd2 = 3 ∧ ¬ ksg sg2 then 4 else kd2) = (2 : Int32) := fun z => by
        have z' := (eqN (b := 2) (by split <;> omega) (by decide)).mp z
        split at z' <;> omega
      rw [p3, if_neg n2]
      refine bad 1 (by decide) (by decide) ?_
      rw [f_148, g145, Option.bind_some, if_neg (show ¬ nI 1 = 0 by decide), m3, if_neg n2']
      rfl
end NL
