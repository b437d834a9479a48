/-! both parsers where a part is due -/
def Yc (D n m : Nat) (I : Nat → Nat → Int32) (W : Nat) : Option (Int32 × (Nat → Nat → Int32) × Nat) := fx (fun _ _ _ _ => none) bd_25_1 m (nI D) (nI n) I W
def Xo (m1 : Nat) (K : Nat → Nat → Int32) (J : Nat → Nat → Int64) : Option ((Nat → Nat → Int32) × (Nat → Nat → Int64)) := fx (fun _ _ _ => none) bd_159_2 m1 (1 : Int32) K J
def Xd (m1 m2 m3 x2 x4 : Nat) (K : Nat → Nat → Int32) (J : Nat → Nat → Int64) : Option ((Nat → Nat → Int32) × (Nat → Nat → Int64)) := (fx (fun _ _ _ _ => none) (bd_156_2 (fx (fun _ _ _ _ => none) bd_156_1 m2)) m3 (nI x2) (nI x4) K J).bind fun q => Xo m1 q.1 q.2
/-- what is shown for texts that are shorter -/
def IHs (t : Nat → Nat) (E a0 b0 D N : Nat) : Prop := ∀ (P : List Int32) (Ws : List Nat) (cmp : Nat → Nat) (due x2 x4 s e kd v sg W : Nat) (I K : Nat → Nat → Int32) (J : Nat → Nat → Int64) (n m m1 m2 m3 : Nat), Both t E a0 b0 P Ws cmp due x2 x4 s e kd v sg W I K J → E < s + N → n ≤ s → N + 3 ≤ m → N + 3 ≤ m1 → N + 3 ≤ m2 → N + 3 ≤ m3 → (due = 1 → Res E a0 b0 D s I K J (Yc D n m I W) (Xd m1 m2 m3 x2 x4 K J)) ∧ (due = 0 → Res E a0 b0 D s I K J (Yc D n m I W) (Xo m1 K J))
section BD
variable {t : Nat → Nat} {E a0 b0 D : Nat} {P : List Int32} {Ws : List Nat} {cmp : Nat → Nat} {due x2 x4 s e kd v sg W n m m1 m2 m3 r N : Nat} {I I1 K : Nat → Nat → Int32} {J : Nat → Nat → Int64}
theorem c25_d (h : PC a0 P Ws cmp 1 x2 x4 I) (hn : n ≤ 500) : Yc D n (m + 1) I W = (f_28 I W).bind fun q8 => lb_25_3 (fx (fun _ _ _ _ => none) bd_25_1 m) (nI D) (nI n) q8.1 q8.2 W := by
  have l : ¬ (500 : Int32) < nI n := fun z => by have := (ltN (a := 500) (by decide) (by omega)).mp z; omega
  unfold Yc
  rw [fx_s, bd_25_1, if_neg l, h.2.2.2.1, if_pos (show nI 0 = 0 from rfl), h.2.2.2.2.1, if_neg (show ¬ nI 1 = 0 by decide)]
theorem c25_o (h : PC a0 P Ws cmp 0 x2 x4 I) (hn : n ≤ 500) : Yc D n (m + 1) I W = (f_32 I W).bind fun q8 => lb_25_3 (fx (fun _ _ _ _ => none) bd_25_1 m) (nI D) (nI n) q8.1 q8.2 W := by
  have l : ¬ (500 : Int32) < nI n := fun z => by have := (ltN (a := 500) (by decide) (by omega)).mp z; omega
  unfold Yc
  rw [fx_s, bd_25_1, if_neg l, h.2.2.2.1, if_pos (show nI 0 = 0 from rfl), h.2.2.2.2.1, if_pos (show nI 0 = 0 from rfl)]
theorem c25_r {c : Int32 → Int32 → (Nat → Nat → Int32) → Nat → Option (Int32 × (Nat → Nat → Int32) × Nat)} (h0 : 0 < r) (hr : r < 10) : lb_25_3 c (nI D) (nI n) (nI r) I W = some (nI r, I, W) := by
  rw [lb_25_3, if_neg (show ¬ nI r = 0 from fun z => by have := (eqN (b := 0) (by omega) (by decide)).mp z; omega)]
theorem c25_n (h13 : I1 67 13 = nI 0) : lb_25_3 (fx (fun _ _ _ _ => none) bd_25_1 m) (nI D) (nI n) (0 : Int32) I1 W = (f_72 I1 W).bind fun q7 => Yc D (n + 1) m q7.1 q7.2 := by
  have one : nI n + (1 : Int32) = nI (n + 1) := addN n 1
  rw [lb_25_3, if_pos rfl, h13, if_pos (show nI 0 = 0 from rfl)]
  unfold lb_25_5 Yc
  rw [one]
theorem gonext {y W0 : Nat} (hT : TC t E I) (hz : WZ I) (hc : CT s e kd v sg I) (he : e ≤ E) (u : Ur y I I1) (p : PC a0 P Ws cmp due x2 x4 I1) (hy : a0 ≤ y) : ∃ s' e' kd' v' sg' W' I2, f_72 I1 W0 = some (I2, W') ∧ Tk t E e s' e' kd' v' sg' W' ∧ Tok E s' e' kd' v' sg' W' ∧ e ≤ s' ∧ CT s' e' kd' v' sg' I2 ∧ PC a0 P Ws cmp due x2 x4 I2 ∧ Kc a0 I I2 := by
  have u1 : Kc a0 I I1 := u.k hy
  obtain ⟨s', e', kd', v', sg', W', I2, a1, a2, a3, a4, a5⟩ := f72_s W0 (hT.k u1) (hz.k u1) (by rw [u.1 60 (by decide)]; exact hc.1) he
  obtain ⟨b1, b2⟩ := a2.tok (fun x hx => (hT.2.2 x hx).1) he
  exact ⟨s', e', kd', v', sg', W', I2, a1, a2, b1, b2, a3, p.tok a5, u1.trans (Uk.k a5) (Nat.le_refl _)⟩
theorem f156_d {b : Nat} (h12 : K 97 12 = nI 0) : ∃ m2, 1000 < m2 ∧ ∀ m1, ((f_156 (nI b) K J).bind fun q => Xo m1 q.1 q.2) = Xd m1 m2 FU b 0 K J := by
  have big : 1000 + 1 < FU := FU_big (by decide)
  obtain ⟨m2, hm⟩ : ∃ m2, FU = m2 + 1 := ⟨FU - 1, by omega⟩
  refine ⟨m2, by omega, fun m1 => ?_⟩
  have e : f_156 (nI b) K J = lb_156_2 (fx (fun _ _ _ _ => none) bd_156_1 m2) (nI b) (nI 0) K J := by
    have e1 : f_156 (nI b) K J = fx (fun _ _ _ _ => none) bd_156_1 FU (nI b) (1 : Int32) K J := rfl
    rw [e1, hm, fx_s, bd_156_1, if_neg (show ¬ (1 : Int32) = 0 by decide), f145_y h12, Option.bind_some, if_neg (show ¬ nI 1 = 0 by decide)]
    rfl
  rw [e]
  rfl
/-- a fault of the class's step, and the model's -/
theorem resB_1 {s0 : Nat} {K' : Nat → Nat → Int32} {J' : Nat → Nat → Int64} {Y : Option (Int32 × (Nat → Nat → Int32) × Nat)} {X : Option ((Nat → Nat → Int32) × (Nat → Nat → Int64))} (hY : Y = some (nI r, I, W)) (h0 : 0 < r) (hr : r < 10) (hc : CT s e kd v sg I) (hX : X = some (K', J')) (h12 : K' 97 12 = nI r) (h13 : K' 97 13 = nI s) (u : Vm 0 K K') (j : UJ J J') : Res E a0 b0 D s0 I K J Y X :=
  Or.inr ⟨r, s, e, kd, v, sg, W, I, K', J', h0, hr, hY, hX, Kc.refl _ _, u, j, hc, Or.inl ⟨h12, h13⟩⟩
theorem mbad (h : PMd b0 P Ws cmp K) (hk : MT s e kd v sg W K J) (tk : Tok E s e kd v sg W) (hE : E ≤ 500) (hM : Mth a0 b0 s P Ws cmp due x2 x4) (hr : (kd = 2 ∧ 4 < e - s ∧ r = 2) ∨ (kd = 1 ∧ wcd W = 0 ∧ r = 3) ∨ (kd ≠ 1 ∧ kd ≠ 2 ∧ r = 1)) (hx : x2 = 0 ∨ W ≠ 16) (hx2 : x2 < 2) (h40 : sg ≠ 40) : ∃ K', Xd (m1 + 1) (m2 + 1) (m3 + 1) x2 x4 K J = some (K', J) ∧ K' 97 12 = nI r ∧ K' 97 13 = nI s ∧ Vm 0 K K' := by
  obtain ⟨w, d5, c2, l1, l2, ev, du⟩ := hM
  have tk1 := tk.1
  have tk2 := tk.2.1
  obtain ⟨K1, n1, a1, a2, a3, a4⟩ := f154_b h hk tk hE hr (by omega)
  have r3 : 0 < r ∧ r < 10 := by
    rcases hr with ⟨_, _, z⟩ | ⟨_, _, z⟩ | ⟨_, _, z⟩ <;> rw [z] <;> decide
  obtain ⟨q1, _⟩ := w.len
  have q2 := w.top.1
  obtain ⟨K2, b1, b2, b3, b4⟩ := m159_f (J := J) (m := m1) a2 r3.1 r3.2 w.vld (by omega) (by omega)
  refine ⟨K2, ?_, b2, b3, a4.trans b4 (Nat.le_refl _)⟩
  unfold Xd
  rw [m156_e h.2.2.2 hk tk hx hx2 h40, a1, Option.bind_some]
  exact b1
theorem mgood {K1 : Nat → Nat → Int32} {J1 : Nat → Nat → Int64} (h : PMd b0 P Ws cmp K) (hk : MT s e kd v sg W K J) (tk : Tok E s e kd v sg W) (hx : x2 = 0 ∨ W ≠ 16) (hx2 : x2 < 2) (h40 : sg ≠ 40) (a1 : f_154 K J = some (K1, J1)) : Xd m1 (m2 + 1) (m3 + 1) x2 x4 K J = Xo m1 K1 J1 := by
  unfold Xd
  rw [m156_e h.2.2.2 hk tk hx hx2 h40, a1, Option.bind_some]
theorem both_due (ih : IHs t E a0 b0 D N) (hN : N ≤ 501) (h : Both t E a0 b0 P Ws cmp 1 x2 x4 s e kd v sg W I K J) (hs : E < s + (N + 1)) (hn : n ≤ s) (g0 : N + 3 ≤ m) (g1 : N + 3 ≤ m1) (g2 : N + 3 ≤ m2) (g3 : N + 3 ≤ m3) : Res E a0 b0 D s I K J (Yc D n (m + 1) I W) (Xd (m1 + 1) (m2 + 1) (m3 + 1) x2 x4 K J) := by
  obtain ⟨hTC, hWZ, hWC, hCT, hPC, hTM, hMT, hPM, hTok, hM⟩ := h
  obtain ⟨tk1, tk2, tk3, tk4, tk5, tk6, tk7, tk8, tk9⟩ := id hTok
  obtain ⟨w, d5, c2, l1, l2, ev, du⟩ := id hM
  obtain ⟨x22, x46, nt⟩ := du rfl
  have hE := hTC.1
  obtain ⟨q1, _⟩ := w.len
  have q2 := w.top.1
  have big : 1000 < FU := FU_big (by decide)
  rw [c25_d hPC (by omega)]
  by_cases k1 : kd = 1
  · subst k1
    obtain rfl : sg = 0 := tk9 (by decide)
    have se := tk3 (by decide)
    by_cases hn16 : W = 16 ∧ x2 = 1
    · obtain ⟨rfl, rfl⟩ := hn16
      obtain ⟨z1, z2⟩ := c28_n hPC hCT w d5 x46
      by_cases y6 : x4 = 6
      · subst y6
        obtain ⟨f1, f2, f3⟩ := hPM.fault (r := 2) hMT.2.1 (by decide) (by decide)
        obtain ⟨K2, b1, b2, b3, b4⟩ := m159_f (J := J) (m := m1) f2 (by decide) (by decide) w.vld (by omega) (by omega)
        obtain ⟨m3', rfl⟩ : ∃ k, m3 = k + 1 := ⟨m3 - 1, by omega⟩
        refine resB_1 (r := 2) (W := 16) (K' := K2) (J' := J) ?_ (by decide) (by decide) hCT ?_ b2 b3 ((f3.mono (Nat.zero_le _)).trans b4 (Nat.le_refl _)) (UJ.refl _)
        · rw [z1 rfl, Option.bind_some]
          exact c25_r (r := 2) (by decide) (by decide)
        · unfold Xd
          rw [m156_6 hPM hMT, Option.bind_some]
          exact b1
      · obtain ⟨I1, a1, a2, a3⟩ := z2 (by omega)
        obtain ⟨s', e', kd', v', sg', W', I2, b1, b2, b3, b4, b5, b6, b7⟩ := gonext (W0 := 16) hTC hWZ hCT tk2 a3 a2 (by omega)
        obtain ⟨K1, J1, d1, d2, d3, d4, d5'⟩ := m156_n (m := m3) (x4 := x4) (fx (fun _ _ _ _ => none) bd_156_1 (m2 + 1)) hPM hTM hMT (by omega) (by omega) tk2 b2
        have st : Both t E a0 b0 P (9 :: Ws) cmp 1 1 (x4 + 1) s' e' kd' v' sg' W' I2 K1 J1 := ⟨hTC.k b7, hWZ.k b7, hWC.k b7, b5, b6, hTM.v d4, d3, d2, b3, (hM.nots (by omega)).mono (by omega)⟩
        have fin := (ih P (9 :: Ws) cmp 1 1 (x4 + 1) s' e' kd' v' sg' W' I2 K1 J1 (n + 1) m (m1 + 1) (m2 + 1) m3 st (by omega) (by omega) g0 (by omega) (by omega) g3).1 rfl
        have eY : ((f_28 I 16).bind fun q8 => lb_25_3 (fx (fun _ _ _ _ => none) bd_25_1 m) (nI D) (nI n) q8.1 q8.2 16) = Yc D (n + 1) m I2 W' := by
          rw [a1, Option.bind_some]
          dsimp only
          rw [c25_n a2.2.2.2.1, b1, Option.bind_some]
        have eX : Xd (m1 + 1) (m2 + 1) (m3 + 1) 1 x4 K J = Xd (m1 + 1) (m2 + 1) m3 1 (x4 + 1) K1 J1 := by
          unfold Xd
          rw [d1]
        rw [eY, eX]
        exact fin.step (by omega) b7 (Nat.le_refl _) d4 (by omega) d5'
    · have hx : x2 = 0 ∨ W ≠ 16 := by omega
      obtain ⟨z1, z2⟩ := c28_w hPC hCT hWC tk6 x22 (fun z => by omega) d5 (by omega)
      by_cases y : wcd W = 0
      · obtain ⟨K2, b1, b2, b3, b4⟩ := mbad (m1 := m1) (m2 := m2) (m3 := m3) (r := 3) hPM hMT hTok hE hM (Or.inr (Or.inl ⟨rfl, y, rfl⟩)) hx x22 (by decide)
        refine resB_1 (r := 3) (W := W) (K' := K2) (J' := J) ?_ (by decide) (by decide) hCT b1 b2 b3 b4 (UJ.refl _)
        rw [z1 y, Option.bind_some]
        exact c25_r (r := 3) (by decide) (by decide)
      · obtain ⟨I1, a1, a2, a3⟩ := z2 y
        obtain ⟨s', e', kd', v', sg', W', I2, b1, b2, b3, b4, b5, b6, b7⟩ := gonext (W0 := W) hTC hWZ hCT tk2 a3 a2 (by omega)
        obtain ⟨K1, J1, d1, d2, d3, d4, d5'⟩ := f154_w hPM hTM hMT tk6 y (by omega) tk2 b2
        obtain ⟨en, _, _⟩ := wcd_mw W tk6.2 tk6.1 y
        have wn : ∀ W, W ≤ 17 → ¬ wcd W < -6 := by decide
        have st : Both t E a0 b0 (P ++ [wcd W]) Ws cmp 0 x2 x4 s' e' kd' v' sg' W' I2 K1 J1 := ⟨hTC.k b7, hWZ.k b7, hWC.k b7, b5, b6, hTM.v d4, d3, d2, b3, (hM.val (wn W tk6.2) (by rw [en]; rfl)).mono (by omega)⟩
        have fin := (ih (P ++ [wcd W]) Ws cmp 0 x2 x4 s' e' kd' v' sg' W' I2 K1 J1 (n + 1) m (m1 + 1) m2 m3 st (by omega) (by omega) g0 (by omega) g2 g3).2 rfl
        have eY : ((f_28 I W).bind fun q8 => lb_25_3 (fx (fun _ _ _ _ => none) bd_25_1 m) (nI D) (nI n) q8.1 q8.2 W) = Yc D (n + 1) m I2 W' := by
          rw [a1, Option.bind_some]
          dsimp only
          rw [c25_n a2.2.2.2.1, b1, Option.bind_some]
        rw [eY, mgood hPM hMT hTok hx x22 (by decide) d1]
        exact fin.step (by omega) b7 (Nat.le_refl _) d4 (by omega) d5'
  · obtain rfl : W = 17 := tk8 k1
    by_cases k2 : kd = 2
    · subst k2
      obtain rfl : sg = 0 := tk9 (by decide)
      have se := tk3 (by decide)
      obtain ⟨z1, z2⟩ := c28_v hPC hCT tk1 (by omega) d5 (by omega)
      by_cases y : 4 < e - s
      · obtain ⟨K2, b1, b2, b3, b4⟩ := mbad (m1 := m1) (m2 := m2) (m3 := m3) (r := 2) hPM hMT hTok hE hM (Or.inl ⟨rfl, y, rfl⟩) (Or.inr (by decide)) x22 (by decide)
        refine resB_1 (r := 2) (W := 17) (K' := K2) (J' := J) ?_ (by decide) (by decide) hCT b1 b2 b3 b4 (UJ.refl _)
        rw [z1 y, Option.bind_some]
        exact c25_r (r := 2) (by decide) (by decide)
      · obtain ⟨I1, a1, a2, a3⟩ := z2 (by omega)
        obtain ⟨s', e', kd', v', sg', W', I2, b1, b2, b3, b4, b5, b6, b7⟩ := gonext (W0 := 17) hTC hWZ hCT tk2 a3 a2 (by omega)
        obtain ⟨K1, J1, d1, d2, d3, d4, d5'⟩ := f154_v hPM hTM hMT (by omega) tk5 (by omega) tk2 b2
        have n0 : ¬ nI v < 0 := negN (by omega)
        have n6 : ¬ nI v < -6 := fun z => n0 (Int32.lt_trans z (by decide))
        have en : enc (nI v) = [1, nI v] := by rw [enc, if_pos n0]
        have st : Both t E a0 b0 (P ++ [nI v]) Ws cmp 0 x2 x4 s' e' kd' v' sg' W' I2 K1 J1 := ⟨hTC.k b7, hWZ.k b7, hWC.k b7, b5, b6, hTM.v d4, d3, d2, b3, (hM.val n6 (by rw [en]; rfl)).mono (by omega)⟩
        have fin := (ih (P ++ [nI v]) Ws cmp 0 x2 x4 s' e' kd' v' sg' W' I2 K1 J1 (n + 1) m (m1 + 1) m2 m3 st (by omega) (by omega) g0 (by omega) g2 g3).2 rfl
        have eY : ((f_28 I 17).bind fun q8 => lb_25_3 (fx (fun _ _ _ _ => none) bd_25_1 m) (nI D) (nI n) q8.1 q8.2 17) = Yc D (n + 1) m I2 W' := by
          rw [a1, Option.bind_some]
          dsimp only
          rw [c25_n a2.2.2.2.1, b1, Option.bind_some]
        rw [eY, mgood hPM hMT hTok (Or.inr (by decide)) x22 (by decide) d1]
        exact fin.step (by omega) b7 (Nat.le_refl _) d4 (by omega) d5'
    · by_cases k40 : sg = 40
      · subst k40
        obtain rfl : kd = 3 := by
          by_cases k3 : kd = 3
          · exact k3
          · have := tk9 k3
            omega
        have se := tk3 (by decide)
        obtain ⟨I1, a1, a2, a3⟩ := c28_p (W := 17) hPC hCT w d5
        obtain ⟨s', e', kd', v', sg', W', I2, b1, b2, b3, b4, b5, b6, b7⟩ := gonext (W0 := 17) hTC hWZ hCT tk2 a3 a2 (by omega)
        have eY : ((f_28 I 17).bind fun q8 => lb_25_3 (fx (fun _ _ _ _ => none) bd_25_1 m) (nI D) (nI n) q8.1 q8.2 17) = Yc D (n + 1) m I2 W' := by
          rw [a1, Option.bind_some]
          dsimp only
          rw [c25_n a2.2.2.2.1, b1, Option.bind_some]
        rw [eY]
        by_cases d4 : dpt Ws ≤ 4
        · obtain ⟨K1, J1, e1, e2, e3, e4, e5⟩ := m156_p (m := m3) (x2 := x2) (x4 := x4) (fx (fun _ _ _ _ => none) bd_156_1 (m2 + 1)) hPM hTM hMT (by omega) d4 tk2 b2
          have st : Both t E a0 b0 P (16 :: Ws) (fun d => if d = dpt Ws + 1 then 0 else cmp d) 1 1 0 s' e' kd' v' sg' W' I2 K1 J1 := ⟨hTC.k b7, hWZ.k b7, hWC.k b7, b5, b6, hTM.v e4, e3, e2, b3, (hM.paren d4).mono (by omega)⟩
          have fin := (ih P (16 :: Ws) _ 1 1 0 s' e' kd' v' sg' W' I2 K1 J1 (n + 1) m (m1 + 1) m2 FU st (by omega) (by omega) g0 (by omega) g2 (by omega)).1 rfl
          have eX : Xd (m1 + 1) (m2 + 1) (m3 + 1) x2 x4 K J = Xd (m1 + 1) m2 FU 1 0 K1 J1 := by
            unfold Xd
            rw [e1, fx_s, bd_156_1, if_neg (show ¬ (1 : Int32) = 0 by decide), f145_y e2.2.2.2, Option.bind_some, if_neg (show ¬ nI 1 = 0 by decide)]
            rfl
          rw [eX]
          exact fin.step (by omega) b7 (Nat.le_refl _) e4 (by omega) e5
        · have d55 : dpt Ws = 5 := by omega
          have dp6 : dpt (16 :: Ws) = 6 := by rw [dpt, if_pos rfl, d55]
          obtain ⟨K1, J1, e1, e2, e3, e4⟩ := m156_d (m := m3) (m2 := m2) (x2 := x2) (x4 := nI x4) hPM hTM hMT (by omega) d55 tk2 b2 b3
          have wp := w.paren
          obtain ⟨t1, t2, t3, t4, t5, t6, t7, t8, t9⟩ := b3
          have r3 : 0 < (if kd' = 1 ∨ kd' = 2 ∨ sg' = 40 then 2 else 1) ∧ (if kd' = 1 ∨ kd' = 2 ∨ sg' = 40 then 2 else 1) < 10 := by split <;> decide
          obtain ⟨K2, g1', g2', g3', g4'⟩ := m159_f (J := J1) (m := m1) e2 r3.1 r3.2 wp.vld (by rw [List.length_cons]; omega) (by rw [List.length_cons]; omega)
          obtain ⟨m', rfl⟩ : ∃ k, m = k + 1 := ⟨m - 1, by omega⟩
          have eX : Xd (m1 + 1) (m2 + 1) (m3 + 1) x2 x4 K J = some (K2, J1) := by
            unfold Xd
            rw [e1, Option.bind_some]
            exact g1'
          have e28 : f_28 I2 W' = some (nI (if kd' = 1 ∨ kd' = 2 ∨ sg' = 40 then 2 else 1), I2) := by
            by_cases z : kd' = 1 ∨ kd' = 2 ∨ sg' = 40
            · rw [if_pos z]
              refine c28_d b6 b5 ?_ t4 dp6
              by_cases z3 : kd' = 3
              · rcases z with z | z | z
                · exact Or.inl z
                · exact Or.inr (Or.inl z)
                · exact Or.inr (Or.inr ⟨z3, z⟩)
              · have := t9 z3
                omega
            · rw [if_neg z]
              exact c28_e b5 (by omega) (fun z0 => t9 (by omega)) t4
          have eY2 : Yc D (n + 1) (m' + 1) I2 W' = some (nI (if kd' = 1 ∨ kd' = 2 ∨ sg' = 40 then 2 else 1), I2, W') := by
            rw [c25_d b6 (by omega), e28, Option.bind_some]
            exact c25_r r3.1 r3.2
          rw [eX, eY2]
          exact Or.inr ⟨_, s', e', kd', v', sg', W', I2, K2, J1, r3.1, r3.2, rfl, rfl, b7.mono (Nat.zero_le _), e3.trans g4' (Nat.le_refl _), e4, b5, Or.inl ⟨g2', g3'⟩⟩
      · obtain ⟨K2, b1, b2, b3, b4⟩ := mbad (m1 := m1) (m2 := m2) (m3 := m3) (r := 1) hPM hMT hTok hE hM (Or.inr (Or.inr ⟨k1, k2, rfl⟩)) (Or.inr (by decide)) x22 k40
        refine resB_1 (r := 1) (W := 17) (K' := K2) (J' := J) ?_ (by decide) (by decide) hCT b1 b2 b3 b4 (UJ.refl _)
        rw [c28_e hCT (by omega) (fun z0 => tk9 (by omega)) tk4, Option.bind_some]
        exact c25_r (r := 1) (by decide) (by decide)
end BD
