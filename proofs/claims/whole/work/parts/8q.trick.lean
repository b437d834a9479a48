/-! trick -/
theorem SetC.fr {C H N M w : Nat} {K S : Nat → Nat} {Y : Nat → Nat → Nat} {I I' : Nat → Nat → Int32} (h : SetC C H N M w K S Y I) (f : ∀ a, 74 ≤ a → a ≤ 83 → I' a = I a) : SetC C H N M w K S Y I' := by
  obtain ⟨a, b, c, d, e⟩ := h
  refine ⟨a.fr (by rw [f 74 (by decide) (by decide)]) (by rw [f 74 (by decide) (by decide)]) (f 75 (by decide) (by decide)) (f 76 (by decide) (by decide)) (f 77 (by decide) (by decide)), by rw [f 79 (by decide) (by decide)]; exact b, ?_, ?_, ?_⟩
  · rw [f 80 (by decide) (by decide), f 81 (by decide) (by decide)]; exact c
  · rw [f 82 (by decide) (by decide)]; exact d
  · rw [f 83 (by decide) (by decide)]; exact e
/-- the class begins anew -/
theorem cls_good {s D : Nat} {q g : Nat → Nat} {R : Nat → List Int32} {A B Kd Sd : Nat → Nat} {I' K' I3 : Nat → Nat → Int32} (hn : LSn q g I' K') (hr : LSr s D R A B Kd Sd I' K') (h10 : q 1 ≤ q 0) (hs : s ≤ 500) (e63 : I3 63 = I' 63) (e62 : I3 62 6 = I' 62 6) (e65 : I3 65 = I' 65) (e66 : I3 66 = I' 66) (e69 : I3 69 = I' 69) (e68 : I3 68 = I' 68) : CH (q 0) (q 1) ∧ ∃ Ic K S Y, f_114 I3 = some Ic ∧ SetC (q 0) (q 1) D (q 2) (q 3) K S Y Ic ∧ (D = 0 → K 0 = 0 ∧ S 0 = 1 ∧ ∀ h, h < q 1 → Y 0 h = q 1 / 2) ∧ (∀ d, d < D → K d = Kd d ∧ S d = Sd d ∧ ∀ h, h < q 1 → Y d h = yv (q 0) (q 1) (q 3) (Kd d) d h (R d)) ∧ (∀ p, p < 60 → Ic 88 p = nI p ∧ Ic 89 p = nI p ∧ Ic 90 p = nI 0) ∧ Ic 87 4 = nI 0 ∧ Ic 84 6 = nI 0 ∧ Ic 58 9 = nI 0 ∧ (∀ k, k ≠ 9 → Ic 58 k = I3 58 k) ∧ Fr [58, 72, 73, 74, 75, 76, 77, 78, 79, 80, 81, 82, 83, 84, 87, 88, 89, 90] I3 Ic := by
  have l0 : lo 0 = 2 := rfl
  have l1 : lo 1 = 2 := rfl
  have u0 : hi 0 = 60 := rfl
  have u1 : hi 1 = 6 := rfl
  obtain ⟨q0, _, _, ql0, qh0, _⟩ := hn.1 0 (by decide)
  obtain ⟨q1, _, _, ql1, qh1, _⟩ := hn.1 1 (by decide)
  obtain ⟨q2, _, _, ql2, qh2, _⟩ := hn.1 2 (by decide)
  obtain ⟨q3, _, _, ql3, qh3, _⟩ := hn.1 3 (by decide)
  have hc : CH (q 0) (q 1) := ⟨by omega, by omega, h10, by omega⟩
  have mono := hr.mono
  obtain ⟨r1, r2, r3, r4, r5, r6, r7, r8, r9, r10⟩ := hr
  have hR : RSc D R A Kd Sd I3 := by
    refine ⟨r1, r2, fun d hd => ?_⟩
    obtain ⟨g1, g2, g3, g4, g5, g6, g7, g8, g9, _⟩ := r10 d hd
    have := (mono (D - (d + 1)) (d + 1) (by omega)).1
    rw [e65, e66, e69, e68]
    exact ⟨g1, g2, g3, by omega, g5, g6, g7, g8, g9⟩
  obtain ⟨I4, K, S, Y, a1, a2, a3, a4, a5⟩ := f47_s (M := q 2) (w := q 3) hc (by rw [e63]; exact q0) (by rw [e63]; exact q1) (by rw [e63]; exact q2) (by rw [e63]; exact q3) (by rw [e62]; exact r6) hR
  obtain ⟨I5, b1, b2, b3, b4⟩ := f60_s I4
  refine ⟨hc, up (up I5 84 6 (0 : Int32)) 58 9 (0 : Int32), K, S, Y, ?_, a2.fr (fun a h1 h2 => ?_), a3, a4, fun p hp' => ?_, ?_, ?_, up_at, fun k hk => ?_, ?_⟩
  · rw [f_114, a1, Option.bind_some, b1, Option.bind_some]
  · rw [up_ne (by omega), up_ne (by omega), b4 a (by simp; omega)]
  · rw [up_ne (by decide), up_ne (by decide), up_ne (by decide), up_ne (by decide), up_ne (by decide), up_ne (by decide)]; exact b2 p hp'
  · rw [up_ne (by decide), up_ne (by decide)]; exact b3
  · rw [up_ne (by decide), up_at]; rfl
  · rw [up_nk hk, up_ne (by decide), b4 58 (by decide), a5 58 (by decide)]
  · exact (((a5.mono (by decide)).trans (b4.mono (by decide))).up (by decide)).up (by decide)
theorem up_inj {I I' : Nat → Nat → Int32} {a k : Nat} {v w : Int32} (h : up I a k v = up I' a k w) : v = w ∧ (∀ b, b ≠ a → I b = I' b) ∧ ∀ j, j ≠ k → I a j = I' a j := by
  refine ⟨?_, fun b hb => ?_, fun j hj => ?_⟩
  · have := congrFun (congrFun h a) k
    rw [up_at, up_at] at this
    exact this
  · have := congrFun h b
    rw [up_ne hb, up_ne hb] at this
    exact this
  · have := congrFun (congrFun h a) j
    rw [up_nk hj, up_nk hj] at this
    exact this
def ZP (Z : Nat → Nat → Int32) : Prop := WZ Z ∧ WC Z ∧ TN Z
section TR
variable {Z I : Nat → Nat → Int32}
theorem Old.z (o : Old Z I) (z : ZP Z) : WZ I ∧ WC I ∧ TN I := by
  obtain ⟨z1, z2, z3⟩ := z
  refine ⟨fun x hx => ?_, fun x h1 h2 => ?_, fun i hi => ?_⟩
  · rw [o _ (by omega), o _ (by omega)]; exact z1 x hx
  · rw [o _ (by omega)]; exact z2 x h1 h2
  · rw [o 53 (by decide), o 54 (by decide), o 55 (by decide)]; exact z3 i hi
theorem Lc.cs {I0 I' : Nat → Nat → Int32} (f : Fr [60, 62, 63, 64, 67] I I0) (h : Lc I0 I') : Fr [60, 62, 63, 64, 65, 66, 67, 68, 69, 70, 71] I I' := (f.mono (by decide)).trans h.1
/-- the model's side of frames -/
theorem Lm.cs {K K0 K' : Nat → Nat → Int32} (f : Fr [97] K K0) (fk : ∀ k, k ∉ [11, 12, 13, 15, 16, 17, 18, 19, 20, 21, 23, 24, 25, 26, 27, 28, 29] → K0 97 k = K 97 k) (h : Lm K0 K') : Fr [97, 104, 105, 106, 107, 108, 109] K K' ∧ ∀ k, k ∉ [11, 12, 13, 15, 16, 17, 18, 19, 20, 21, 23, 24, 25, 26, 27, 28, 29, 30, 31] → K' 97 k = K 97 k := by
  refine ⟨(f.mono (by decide)).trans h.1, fun k hk => ?_⟩
  rw [h.2.1 k (fun z => hk (by revert z; simp; omega)), fk k (fun z => hk (by revert z; simp; omega))]
theorem trick_x (h : Inv Z I) (x1 : Int32) (W : Nat) (J : Nat → Nat → Int64) (L : Nat) (hL : TapeP L I) (hx : x1 < nI 0 ∨ nI L < x1) : ∃ I2, f_89 x1 I W = some (.inr 0, I, W) ∧ f_162 x1 I J = some (0, I2, J) ∧ Inv Z I2 ∧ I2 97 0 = nI 1 := by
  have z0 : (up I 97 0 (0 : Int32)) 97 0 = nI 0 := up_at
  have k2 : Keep I (up (up I 97 0 (0 : Int32)) 97 0 (1 : Int32)) := ((Keep.refl I).up0 _).up0 _
  have z1 : (up (up I 97 0 (0 : Int32)) 97 0 (1 : Int32)) 97 0 = nI 1 := up_at
  have g2 : lb_162_2 x1 (0 : Int32) (up I 97 0 (0 : Int32)) J = some (0, up (up I 97 0 (0 : Int32)) 97 0 (1 : Int32), J) := by
    have g132 : f_132 (0 : Int32) (1 : Int32) (up I 97 0 (0 : Int32)) = some (0, up (up I 97 0 (0 : Int32)) 97 0 (1 : Int32)) := by
      rw [f_132, z0, if_pos (show nI 0 = 0 from rfl), if_pos rfl]
      try dsimp only
      rw [lb_132_1, z1, if_neg (show ¬ nI 1 = 0 by decide)]
      rfl
    rw [lb_162_2, g132, Option.bind_some, if_pos rfl]
  refine ⟨_, ?_, ?_, h.keep k2, z1⟩
  · rw [f_89, hL.2.1]
    by_cases q : x1 < 0
    · rw [if_pos q]; rfl
    · rw [if_neg q, if_pos (hx.resolve_left q)]; rfl
  · have e11 : (up I 97 0 (0 : Int32)) 97 11 = nI L := by rw [up_nk (by decide)]; exact hL.2.2.1
    rw [f_162]
    try dsimp only
    rw [e11]
    by_cases q : x1 < 0
    · rw [if_pos q, lb_162_1, g2]
    · rw [if_neg q, if_pos (hx.resolve_left q), lb_162_1, g2]
theorem trick_s (z : ZP Z) (h : Inv Z I) (x1 : Int32) (W : Nat) (J : Nat → Nat → Int64) : ∃ q I1 W1 b I2 J2, f_89 x1 I W = some (q, I1, W1) ∧ f_162 x1 I1 J = some (b, I2, J2) ∧ I1 0 = I 0 ∧ Inv Z I2 ∧ OKq cdI q b (I2 97 0) ∧ UJ J J2 := by
  have h0 := h
  obtain ⟨o, C, H, N, M, w, K, S, Y, L, g1, g2, g3, g4, g5, g6⟩ := h
  obtain ⟨l1, l2, l3, l4⟩ := id g2
  rcases ixw x1 0 L (by omega) (by decide) with ⟨n, _, hn, rfl⟩ | hx
  · obtain ⟨wz, wc, tn⟩ := o.z z
    have nn : ¬ nI n < 0 := negN (by omega)
    have nl : ¬ nI L < nI n := fun y => by have := (ltN (by omega) (by omega)).mp y; omega
    have key : ∀ K : Nat → Nat → Int32, K 102 = I 102 → K 97 0 = nI 0 → ∃ I0 K0 J0, Fr [60, 62, 63, 64, 67] I I0 ∧ Fr [97] K K0 ∧ (∀ k, k ∉ [11, 12, 13, 15, 16, 17, 18, 19, 20, 21, 23, 24, 25, 26, 27, 28, 29] → K0 97 k = K 97 k) ∧ UJ J J0 ∧ K0 97 11 = nI 0 ∧ K0 97 12 = nI 0 ∧ K0 97 13 = -1 ∧ (LLA I0 K0 J0 (f_17 (nI n) I W) (lb_162_2 (nI n) (1 : Int32) K J) ∨ LLB I0 K0 J0 (f_17 (nI n) I W) (lb_162_2 (nI n) (1 : Int32) K J)) := fun K e1 e2 =>
      start_s l1 (fun i hi => by rw [e1]; exact l4 i hi) l2 hn e2 wz wc tn
    have e89 : f_89 (nI n) I W = ((f_17 (nI n) I W).bind fun q1 => (let I2 := up q1.2.1 60 1 (0 : Int32)
  (let I3 := up I2 58 10 (I2 62 7)
  (if q1.1 = 0 then ((f_114 I3).bind fun q4 => (some ((.inl (0 : Int32)), q4, q1.2.2))) else (let I5 := up I3 58 11 ((I3 58 11) + (1 : Int32))
  (some ((.inl q1.1), I5, q1.2.2))))))) := by
      rw [f_89, if_neg nn, l2, if_neg nl]
    have e162 : ∀ Ic : Nat → Nat → Int32, Ic 97 11 = nI L → f_162 (nI n) Ic J = lb_162_2 (nI n) (1 : Int32) (up Ic 97 0 (0 : Int32)) J := fun Ic e => by
      have e11 : (up Ic 97 0 (0 : Int32)) 97 11 = nI L := by rw [up_nk (by decide)]; exact e
      rw [f_162]
      try dsimp only
      rw [if_neg nn, e11, if_neg nl]
    obtain ⟨I0, K0, J0, f0, fk0, kk0, uj0, k11, k12, k13, res⟩ := key (up I 97 0 (nI 0)) (up_ne (by decide)) up_at
    rcases res with ⟨s', W', I', K', J', q, g, D, R, A, B, Kd, Sd, a1, a2, a3, a4, a5, a6, a7, a8, a9, a10⟩ | ⟨r, s', W', I', K', J', a1, a2, a3, a4, a5, a6, a7, a8⟩
    · -- good
      have fI' := Lc.cs f0 a3
      have p62 : (up (up I' 62 7 (-1)) 60 1 (0 : Int32)) 62 7 = -1 := by rw [up_ne (by decide), up_at]
      have G : ∀ (I'' K'' : Nat → Nat → Int32) (s : Nat) (q g : Nat → Nat) (D : Nat) (R : Nat → List Int32) (A B Kd Sd : Nat → Nat), up I'' 62 7 (-1) = up I' 62 7 (-1) → LSn q g I'' K'' → LSr s D R A B Kd Sd I'' K'' → q 1 ≤ q 0 → s ≤ 500 → _ := fun I'' K'' s q g D R A B Kd Sd e b1 b2 b3 b4 => by
        obtain ⟨_, e1, e2⟩ := up_inj e
        exact cls_good (I3 := up (up (up I' 62 7 (-1)) 60 1 (0 : Int32)) 58 10 (-1)) b1 b2 b3 b4 (by rw [up_ne (by decide), up_ne (by decide), up_ne (by decide), e1 63 (by decide)]) (by rw [up_ne (by decide), up_ne (by decide), up_nk (by decide), e2 6 (by decide)]) (by rw [up_ne (by decide), up_ne (by decide), up_ne (by decide), e1 65 (by decide)]) (by rw [up_ne (by decide), up_ne (by decide), up_ne (by decide), e1 66 (by decide)]) (by rw [up_ne (by decide), up_ne (by decide), up_ne (by decide), e1 69 (by decide)]) (by rw [up_ne (by decide), up_ne (by decide), up_ne (by decide), e1 68 (by decide)])
      obtain ⟨_, Ic, _, _, _, c1, _, _, _, c2, c3, c4, c5, c6, c7⟩ := G I' K' s' q g D R A B Kd Sd rfl a7 a8 a9 a10
      have fI3 : Fr [58, 60, 62, 63, 64, 65, 66, 67, 68, 69, 70, 71] I (up (up (up I' 62 7 (-1)) 60 1 (0 : Int32)) 58 10 (-1)) := (((fI'.mono (by decide)).up (by decide)).up (by decide)).up (by decide)
      have cI3 : ∀ k, k ≠ 10 → (up (up (up I' 62 7 (-1)) 60 1 (0 : Int32)) 58 10 (-1)) 58 k = I 58 k := fun k hk => by rw [up_nk hk, up_ne (by decide), up_ne (by decide), fI' 58 (by decide)]
      have cI4 : (up (up (up I' 62 7 (-1)) 60 1 (0 : Int32)) 58 10 (-1)) 58 10 = -1 := up_at
      have cI5 : (up (up (up I' 62 7 (-1)) 60 1 (0 : Int32)) 58 10 (-1)) 60 1 = nI 0 := by rw [up_ne (by decide), up_at]; rfl
      have eY : f_89 (nI n) I W = some (.inl 0, Ic, W') := by
        rw [e89, a1, Option.bind_some, if_pos rfl]
        dsimp only
        rw [p62, c1, Option.bind_some]
      generalize up (up (up I' 62 7 (-1)) 60 1 (0 : Int32)) 58 10 (-1) = I3 at G c1 c2 c3 c4 c5 c6 c7 fI3 cI3 cI4 cI5
      have fIc : ∀ a, 91 ≤ a → Ic a = I a := fun a ha => by rw [c7 a (by simp; omega), fI3 a (by simp; omega)]
      obtain ⟨I0', K0', J0', f0', fk0', kk0', uj0', k11', k12', k13', res'⟩ := key (up Ic 97 0 (nI 0)) (by rw [up_ne (by decide), fIc 102 (by decide)]) up_at
      rcases res' with ⟨s2, W2, I2, K2, J2, q2, g2', D2, R2, A2, B2, Kd2, Sd2, b1, b2, b3, b4, b5, b6, b7, b8, b9, b10⟩ | ⟨r2, s2, W2, I2, K2, J2, b1, b2, b3, b4, b5, b6, b7, b8⟩
      · rw [a1] at b1
        have eI : up I2 62 7 (-1) = up I' 62 7 (-1) := (congrArg (fun p => p.2.1) (Option.some.inj b1)).symm
        obtain ⟨hc, Ic', KK, SS', YY, d1, d2, d3, d4, d5, d6, d7, d8, d9, d10⟩ := G I2 K2 s2 q2 g2' D2 R2 A2 B2 Kd2 Sd2 eI b7 b8 b9 b10
        obtain rfl : Ic = Ic' := Option.some.inj (c1.symm.trans d1)
        obtain ⟨K3, m1, m2, m3, m4, m5, m6, m7, m8, m9, m10⟩ := m162_g (J := J2) b6
        obtain ⟨fm, fmk⟩ := Lm.cs fk0' kk0' b4
        have tot : ∀ a, a < 97 → K3 a = Ic a := fun a ha => by
          rw [m9 a (by simp; omega), fm a (by simp; omega), up_ne (by omega)]
        have totk : ∀ k, k ∉ [0, 1, 2, 3, 4, 5, 11, 12, 13, 15, 16, 17, 18, 19, 20, 21, 23, 24, 25, 26, 27, 28, 29, 30, 31, 48, 52, 59] → K3 97 k = I 97 k := fun k hk => by
          rw [m10 k (fun z => hk (by revert z; simp; omega)), fmk k (fun z => hk (by revert z; simp; omega)), up_nk (fun z => hk (by rw [z]; decide)), fIc 97 (by decide)]
        have p13 : K3 97 13 = -1 := by rw [m10 13 (by decide), (b4.2.2 b6).2]; exact k13'
        have p11 : K3 97 11 = nI 0 := by rw [m10 11 (by decide), b4.2.1 11 (by decide)]; exact k11'
        have p0 : K3 97 0 = nI 0 := by rw [m10 0 (by decide), fmk 0 (by decide), up_at]
        obtain ⟨y0, _, _, ql0, qh0, w0⟩ := b7.1 0 (by decide)
        obtain ⟨y1, _, _, ql1, qh1, w1⟩ := b7.1 1 (by decide)
        obtain ⟨y2, _, _, ql2, qh2, w2⟩ := b7.1 2 (by decide)
        obtain ⟨y3, _, _, ql3, qh3, w3⟩ := b7.1 3 (by decide)
        have hi2 : hi 2 = 2 := rfl
        have hi3 : hi 3 = 59 := rfl
        have mono := b8.mono
        obtain ⟨t1, t2, t3, t4, t5, t6, t7, t8, t9, t10⟩ := b8
        obtain ⟨v1, v2, v3, v4, v5⟩ := d2.fr (I' := K3) (fun a h1 h2 => tot a (by omega))
        refine ⟨.inl 0, Ic, W', 0, K3, J2, eY, ?_, (by rw [c7 0 (by decide), fI3 0 (by decide)]), ⟨?_, q2 0, q2 1, D2, q2 2, q2 3, KK, SS', YY, 0, ?_, ?_, ?_, ?_, ?_, ?_⟩, ⟨p0, rfl⟩, uj0'.trans b5⟩
        · rw [e162 Ic (by rw [fIc 97 (by decide)]; exact l3), show up Ic 97 0 (0 : Int32) = up Ic 97 0 (nI 0) from rfl, b2, m1]
        · exact fun a ha => by
            rw [tot a (by omega), c7 a (by simp; omega), fI3 a (by simp; omega)]
            exact o a ha
        · refine ⟨hc, t1, by omega, by omega, v1, v2, v3, v4, v5, ⟨?_, ?_, ?_, ?_, ?_⟩, d3, fun d hd => ?_⟩
          · rw [m2.1]; exact w0
          · rw [m2.2.1]; exact w1
          · rw [m2.2.2.1]; exact t8
          · rw [m2.2.2.2.1]; exact w2
          · rw [m2.2.2.2.2]; exact w3
          · obtain ⟨x1, x2, x3, x4, x5, x6, x7, x8, x9, x10, x11, x12, x13⟩ := t10 d hd
            obtain ⟨z1, z2, z3⟩ := d4 d hd
            have mo := (mono (D2 - (d + 1)) (d + 1) (by omega)).2
            obtain ⟨m3a, m3b, m3c⟩ := m3 d (by omega)
            refine ⟨by rw [m3a, z1]; exact x10, by rw [m3b, z2]; exact x11, R2 d, B2 d, by rw [m3c]; exact x12, by omega, x13.fr (fun x hx => m4 x (by rw [List.length_append, List.length_singleton] at hx; omega)), fun h hh => ?_⟩
            rw [z3 h hh, z1]
            exact yv_s x5 hc.1 hc.2.1
        · exact ⟨by decide, by rw [tot 60 (by decide), c7 60 (by decide)]; exact cI5, p11, fun i hi => absurd hi (Nat.not_lt_zero _)⟩
        · exact Or.inl ⟨by rw [tot 84 (by decide)]; exact d7, m7⟩
        · refine ⟨?_, ?_, ?_⟩
          · rw [tot 58 (by decide), d9 10 (by decide), cI4, p13]
          · rw [tot 58 (by decide), d9 11 (by decide), cI3 11 (by decide), m9 103 (by decide), fm 103 (by decide), up_ne (by decide), fIc 103 (by decide)]; exact g4.2.1
          · rw [tot 58 (by decide), d9 12 (by decide), cI3 12 (by decide), m9 103 (by decide), fm 103 (by decide), up_ne (by decide), fIc 103 (by decide)]; exact g4.2.2
        · obtain ⟨hc1, hc2, hc3, hc4⟩ := hc
          refine ⟨0, fun _ p => p, fun _ _ => 0, fun _ => (0, 0, 0, 0), by rw [tot 87 (by decide)]; exact d6, m6, ⟨by decide, fun p hp' => ?_, fun p hp' => ?_, fun j p _ hp' => ⟨hp', Nat.zero_le _⟩, fun j hj => absurd hj (Nat.not_lt_zero _)⟩, fun p hp' => ?_⟩
          · rw [tot 88 (by decide)]
            exact ⟨(d5 p (by omega)).1, (m5 p (by omega)).1⟩
          · rw [tot 90 (by decide)]
            exact ⟨(d5 p (by omega)).2.2, (m5 p (by omega)).2.2⟩
          · rw [tot 89 (by decide), (d5 p (by omega)).2.1, (m5 p (by omega)).2.1]
        · exact Or.inl ⟨by rw [tot 58 (by decide)]; exact d8, m8⟩
      · exfalso
        rw [a1] at b3
        have e : (0 : Int32) = nI r2 := congrArg (fun p => p.1) (Option.some.inj b3)
        have := (eqN (a := 0) (by decide) (by omega)).mp e
        omega
    · -- fault
      have fI' := Lc.cs f0 a5
      have rn : ¬ nI r = 0 := fun y => by have := (eqN (b := 0) (by omega) (by decide)).mp y; omega
      have p62 : (up (up I' 62 7 (nI s')) 60 1 (0 : Int32)) 62 7 = nI s' := by rw [up_ne (by decide), up_at]
      have i11 : (up (up (up I' 62 7 (nI s')) 60 1 (0 : Int32)) 58 10 (nI s')) 58 11 = I 58 11 := by rw [up_nk (by decide), up_ne (by decide), up_ne (by decide), fI' 58 (by decide)]
      have eY : f_89 (nI n) I W = some (.inl (nI r), up (up (up (up I' 62 7 (nI s')) 60 1 (0 : Int32)) 58 10 (nI s')) 58 11 (I 58 11 + 1), W') := by
        rw [e89, a3, Option.bind_some, if_neg rn]
        dsimp only
        rw [p62, i11]
      have fIc : Fr [58, 60, 62, 63, 64, 65, 66, 67, 68, 69, 70, 71] I (up (up (up (up I' 62 7 (nI s')) 60 1 (0 : Int32)) 58 10 (nI s')) 58 11 (I 58 11 + 1)) := ((((fI'.mono (by decide)).up (by decide)).up (by decide)).up (by decide)).up (by decide)
      have q10 : (up (up (up (up I' 62 7 (nI s')) 60 1 (0 : Int32)) 58 10 (nI s')) 58 11 (I 58 11 + 1)) 58 10 = nI s' := by rw [up_nk (by decide), up_at]
      have q11 : (up (up (up (up I' 62 7 (nI s')) 60 1 (0 : Int32)) 58 10 (nI s')) 58 11 (I 58 11 + 1)) 58 11 = I 58 11 + 1 := up_at
      have q12 : ∀ k, k ≠ 10 → k ≠ 11 → (up (up (up (up I' 62 7 (nI s')) 60 1 (0 : Int32)) 58 10 (nI s')) 58 11 (I 58 11 + 1)) 58 k = I 58 k := fun k h1 h2 => by rw [up_nk h2, up_nk h1, up_ne (by decide), up_ne (by decide), fI' 58 (by decide)]
      have q60 : (up (up (up (up I' 62 7 (nI s')) 60 1 (0 : Int32)) 58 10 (nI s')) 58 11 (I 58 11 + 1)) 60 1 = nI 0 := by rw [up_ne (by decide), up_ne (by decide), up_at]; rfl
      generalize up (up (up (up I' 62 7 (nI s')) 60 1 (0 : Int32)) 58 10 (nI s')) 58 11 (I 58 11 + 1) = Ic at eY fIc q10 q11 q12 q60
      obtain ⟨I0', K0', J0', f0', fk0', kk0', uj0', k11', k12', k13', res'⟩ := key (up Ic 97 0 (nI 0)) (by rw [up_ne (by decide), fIc 102 (by decide)]) up_at
      rcases res' with ⟨s2, W2, I2, K2, J2, q2, g2', D2, R2, A2, B2, Kd2, Sd2, b1, b2, b3, b4, b5, b6, b7, b8, b9, b10⟩ | ⟨r2, s2, W2, I2, K2, J2, b1, b2, b3, b4, b5, b6, b7, b8⟩
      · exfalso
        rw [a3] at b1
        have e : nI r = (0 : Int32) := congrArg (fun p => p.1) (Option.some.inj b1)
        exact rn e
      · rw [a3] at b3
        have er : nI r = nI r2 := congrArg (fun p => p.1) (Option.some.inj b3)
        obtain ⟨es, _, _⟩ := up_inj (congrArg (fun p => p.2.1) (Option.some.inj b3))
        obtain ⟨fm, fmk⟩ := Lm.cs fk0' kk0' b6
        have tot : ∀ a, a ∉ [58, 60, 62, 63, 64, 65, 66, 67, 68, 69, 70, 71, 97, 103, 104, 105, 106, 107, 108, 109] → (up K2 103 0 (K2 103 0 + 1)) a = I a := fun a ha => by
          rw [up_ne (fun z => ha (by rw [z]; decide)), fm a (fun z => ha (by revert z; simp; omega)), up_ne (fun z => ha (by rw [z]; decide)), fIc a (fun z => ha (by revert z; simp; omega))]
        have t58 : (up K2 103 0 (K2 103 0 + 1)) 58 = Ic 58 := by rw [up_ne (by decide), fm 58 (by decide), up_ne (by decide)]
        have totk : ∀ k, k ∉ [0, 11, 12, 13, 15, 16, 17, 18, 19, 20, 21, 23, 24, 25, 26, 27, 28, 29, 30, 31] → (up K2 103 0 (K2 103 0 + 1)) 97 k = I 97 k := fun k hk => by
          rw [up_ne (by decide), fmk k (fun z => hk (by revert z; simp; omega)), up_nk (fun z => hk (by rw [z]; decide)), fIc 97 (by decide)]
        have k103 : K2 103 = I 103 := by rw [fm 103 (by decide), up_ne (by decide), fIc 103 (by decide)]
        have p0 : (up K2 103 0 (K2 103 0 + 1)) 97 0 = nI 0 := by rw [up_ne (by decide), fmk 0 (by decide), up_at]
        have p11 : (up K2 103 0 (K2 103 0 + 1)) 97 11 = nI 0 := by rw [up_ne (by decide), b6.2.1 11 (by decide)]; exact k11'
        have c4 := g1.ch.2.2.2
        refine ⟨.inl (nI r), Ic, W', nI r2, up K2 103 0 (K2 103 0 + 1), J2, eY, ?_, fIc 0 (by decide), ⟨?_, C, H, N, M, w, K, S, Y, 0, ?_, ?_, ?_, ?_, ?_, ?_⟩, ⟨p0, er⟩, uj0'.trans b7⟩
        · rw [e162 Ic (by rw [fIc 97 (by decide)]; exact l3), show up Ic 97 0 (0 : Int32) = up Ic 97 0 (nI 0) from rfl, b4]
        · exact fun a ha => by
            rw [tot a (by simp; omega)]
            exact o a ha
        · obtain ⟨a1, a2, a3, a4, a5, a6, a7, a8, a9, b1, b2, b3⟩ := g1
          refine ⟨a1, a2, a3, a4, a5.fr (by rw [tot 74 (by decide)]) (by rw [tot 74 (by decide)]) (tot 75 (by decide)) (tot 76 (by decide)) (tot 77 (by decide)), by rw [tot 79 (by decide)]; exact a6, fun d hd => by rw [tot 80 (by decide), tot 81 (by decide)]; exact a7 d hd, fun d h hd hh => by rw [tot 82 (by decide)]; exact a8 d h hd hh, fun d p hd hp => by rw [tot 83 (by decide)]; exact a9 d p hd hp, ?_, b2, fun d hd => ?_⟩
          · rw [totk 1 (by decide), totk 2 (by decide), totk 3 (by decide), totk 4 (by decide), totk 5 (by decide)]
            exact b1
          · obtain ⟨c1, c2, P, a, d1, d2, d3, d4⟩ := b3 d hd
            exact ⟨by rw [tot 98 (by decide)]; exact c1, by rw [tot 99 (by decide)]; exact c2, P, a, by rw [tot 100 (by decide)]; exact d1, d2, by rw [tot 101 (by decide)]; exact d3, d4⟩
        · exact ⟨by decide, by rw [up_ne (by decide), fm 60 (by decide), up_ne (by decide)]; exact q60, p11, fun i hi => absurd hi (Nat.not_lt_zero _)⟩
        · exact g3.fr (by rw [tot 84 (by decide)]) (by rw [tot 84 (by decide)]) (totk 48 (by decide)) (tot 119 (by decide))
        · refine ⟨?_, ?_, ?_⟩
          · rw [t58, q10, es, up_ne (by decide), b8]
          · rw [t58, q11, up_at, k103, g4.2.1]
          · rw [t58, q12 12 (by decide) (by decide), up_nk (by decide), k103]; exact g4.2.2
        · exact g5.fr c4 (by rw [tot 87 (by decide)]) (totk 52 (by decide)) (fun a ha => tot a (by rcases ha with rfl | rfl | rfl | rfl | rfl | rfl | rfl | rfl | rfl <;> decide))
        · exact g6.fr c4 (by rw [t58, q12 9 (by decide) (by decide)]) (by rw [tot 92 (by decide)]) (totk 59 (by decide)) (totk 60 (by decide)) (fun a ha => tot a (by rcases ha with rfl | rfl | rfl | rfl | rfl | rfl | rfl | rfl | rfl <;> decide))
  · obtain ⟨I2, a1, a2, a3, a4⟩ := trick_x h0 x1 W J L g2 hx
    exact ⟨.inr 0, I, W, 0, I2, J, a1, a2, rfl, a3, ⟨a4, by decide, by decide⟩, UJ.refl _⟩
end TR
