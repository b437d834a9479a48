/-! feed -/
theorem and255 (y : Int32) : (y &&& 255) = nI (y.toBitVec.toNat % 256) := by
  apply Int32.toBitVec_inj.mp
  apply BitVec.eq_of_toNat_eq
  rw [Int32.toBitVec_and, BitVec.toNat_and]
  have e : (255 : Int32).toBitVec.toNat = 2 ^ 8 - 1 := by decide
  rw [e, Nat.and_two_pow_sub_one_eq_mod]
  have := Nat.mod_lt y.toBitVec.toNat (show 0 < 256 by decide)
  have f : (nI (y.toBitVec.toNat % 256)).toBitVec.toNat = y.toBitVec.toNat % 256 % 2 ^ 32 := rfl
  rw [f, Nat.mod_eq_of_lt (show y.toBitVec.toNat % 256 < 2 ^ 32 by omega)]
theorem byt1 (y : Int32) : y.toInt8.toInt32.toBitVec.toNat % 256 = y.toBitVec.toNat % 256 := by
  have e : y.toInt8.toInt32.toBitVec = (y.toBitVec.setWidth 8).signExtend 32 := by
    rw [Int8.toBitVec_toInt32, Int32.toBitVec_toInt8, BitVec.signExtend_eq_setWidth_of_le y.toBitVec (show 8 ≤ 32 by decide)]
  have l : (y.toBitVec.setWidth 8).toNat = y.toBitVec.toNat % 256 := BitVec.toNat_setWidth 8 y.toBitVec
  rw [e, BitVec.toNat_signExtend, BitVec.toNat_setWidth, l]
  split <;> omega
theorem byt (y : Int32) : ∃ b, b < 256 ∧ (y &&& 255) = nI b ∧ (vp_nar .byte y.toInt8.toInt32 &&& 255) = nI b := by
  refine ⟨y.toBitVec.toNat % 256, Nat.mod_lt _ (by decide), and255 y, ?_⟩
  have e : vp_nar .byte y.toInt8.toInt32 = y.toInt8.toInt32.toInt8.toInt32 := rfl
  rw [e, and255, byt1, byt1]
def FeedP (L : Nat) (J I : Nat → Nat → Int32) : Prop := ∀ i, i < L → ∃ b, b < 256 ∧ I 102 i = nI b ∧ (J 61 i &&& 255) = nI b
/-- what the class has written -/
def bts (x : Int32) (s : Nat) : Int32 := x >>> (nI s &&& 31)
theorem f70_s {L : Nat} {I : Nat → Nat → Int32} (x : Int32) (hL : L + 4 ≤ 500) (h : I 60 1 = nI L) : f_70 x I = some (up (up (up (up (up (up (up (up I 61 L (vp_nar .byte (bts x 24).toInt8.toInt32)) 60 1 (nI (L + 1))) 61 (L + 1) (vp_nar .byte (bts x 16).toInt8.toInt32)) 60 1 (nI (L + 2))) 61 (L + 2) (vp_nar .byte (bts x 8).toInt8.toInt32)) 60 1 (nI (L + 3))) 61 (L + 3) (vp_nar .byte (bts x 0).toInt8.toInt32)) 60 1 (nI (L + 4))) := by
  have step : ∀ (m s l : Nat) (I : Nat → Nat → Int32), s ≤ 24 → l < 500 → I 60 1 = nI l → fx (fun _ _ _ => none) bd_70_1 (m + 1) x (nI s) I = fx (fun _ _ _ => none) bd_70_1 m x (nI s + (-8)) (up (up I 61 l (vp_nar .byte (bts x s).toInt8.toInt32)) 60 1 (nI (l + 1))) := by
    intro m s l I hs hl h
    have n0 : ¬ nI s < 0 := negN (by omega)
    have one : nI l + (1 : Int32) = nI (l + 1) := addN l 1
    rw [fx_s, bd_70_1, if_neg n0, h, if_pos ((ltN (by omega) (by decide)).mpr hl), if_pos ((inN (by omega)).mpr hl)]
    unfold lb_70_2
    dsimp only
    rw [clN (by omega), up_ne (by decide), h, one]
    rfl
  have fu : FU = (FU - 5) + 5 := (Nat.sub_add_cancel (Nat.le_of_lt (FU_big (by decide)))).symm
  have a1 : nI 24 + (-8) = nI 16 := by decide
  have a2 : nI 16 + (-8) = nI 8 := by decide
  have a3 : nI 8 + (-8) = nI 0 := by decide
  have a4 : nI 0 + (-8) < (0 : Int32) := by decide
  have e0 : f_70 x I = fx (fun _ _ _ => none) bd_70_1 ((FU - 5) + 5) x (nI 24) I := by
    rw [← fu]
    rfl
  rw [e0, step _ 24 L I (by omega) (by omega) h, a1, step _ 16 (L + 1) _ (by omega) (by omega) up_at, a2, step _ 8 (L + 2) _ (by omega) (by omega) up_at, a3, step _ 0 (L + 3) _ (by omega) (by omega) up_at, fx_s, bd_70_1, if_pos a4]
theorem f136_s {L : Nat} {I : Nat → Nat → Int32} (x : Int32) (hL : L + 4 ≤ 500) (h : I 97 11 = nI L) : f_136 x I = some (up (up (up (up (up (up (up (up I 102 L (bts x 24 &&& 255)) 97 11 (nI (L + 1))) 102 (L + 1) (bts x 16 &&& 255)) 97 11 (nI (L + 2))) 102 (L + 2) (bts x 8 &&& 255)) 97 11 (nI (L + 3))) 102 (L + 3) (bts x 0 &&& 255)) 97 11 (nI (L + 4))) := by
  have step : ∀ (m s l : Nat) (I : Nat → Nat → Int32), s ≤ 24 → l < 500 → I 97 11 = nI l → fx (fun _ _ _ => none) bd_136_1 (m + 1) x (nI s) I = fx (fun _ _ _ => none) bd_136_1 m x (nI s + (-8)) (up (up I 102 l (bts x s &&& 255)) 97 11 (nI (l + 1))) := by
    intro m s l I hs hl h
    have n0 : ¬ nI s < 0 := negN (by omega)
    have one : nI l + (1 : Int32) = nI (l + 1) := addN l 1
    rw [fx_s, bd_136_1, if_neg n0, h, if_pos ((inN (by omega)).mpr hl)]
    dsimp only
    rw [clN (by omega), up_ne (by decide), h, one]
    rfl
  have fu : FU = (FU - 5) + 5 := (Nat.sub_add_cancel (Nat.le_of_lt (FU_big (by decide)))).symm
  have a1 : nI 24 + (-8) = nI 16 := by decide
  have a2 : nI 16 + (-8) = nI 8 := by decide
  have a3 : nI 8 + (-8) = nI 0 := by decide
  have a4 : nI 0 + (-8) < (0 : Int32) := by decide
  have e0 : f_136 x I = fx (fun _ _ _ => none) bd_136_1 ((FU - 5) + 5) x (nI 24) I := by
    rw [← fu]
    rfl
  rw [e0, step _ 24 L I (by omega) (by omega) h, a1, step _ 16 (L + 1) _ (by omega) (by omega) up_at, a2, step _ 8 (L + 2) _ (by omega) (by omega) up_at, a3, step _ 0 (L + 3) _ (by omega) (by omega) up_at, fx_s, bd_136_1, if_pos a4]
/-- a word of four on the tape -/
def W4 (F : Int32 → Int32) (x : Int32) (f g : Nat → Int32) (L : Nat) : Prop := (∀ i, i < L → g i = f i) ∧ g L = F (bts x 24) ∧ g (L + 1) = F (bts x 16) ∧ g (L + 2) = F (bts x 8) ∧ g (L + 3) = F (bts x 0)
theorem f70_t {L : Nat} {I : Nat → Nat → Int32} (x : Int32) (hL : L + 4 ≤ 500) (h : I 60 1 = nI L) : ∃ I', f_70 x I = some I' ∧ I' 60 1 = nI (L + 4) ∧ W4 (fun y => vp_nar .byte y.toInt8.toInt32) x (I 61) (I' 61) L ∧ Fr [60, 61] I I' := by
  refine ⟨_, f70_s x hL h, up_at, ⟨fun i hi => ?_, ?_, ?_, ?_, ?_⟩, ((((((((Fr.refl _ _).up (by decide)).up (by decide)).up (by decide)).up (by decide)).up (by decide)).up (by decide)).up (by decide)).up (by decide)⟩
  · rw [up_ne (by decide), up_nk (by omega), up_ne (by decide), up_nk (by omega), up_ne (by decide), up_nk (by omega), up_ne (by decide), up_nk (by omega)]
  · rw [up_ne (by decide), up_nk (by omega), up_ne (by decide), up_nk (by omega), up_ne (by decide), up_nk (by omega), up_ne (by decide), up_at]
  · rw [up_ne (by decide), up_nk (by omega), up_ne (by decide), up_nk (by omega), up_ne (by decide), up_at]
  · rw [up_ne (by decide), up_nk (by omega), up_ne (by decide), up_at]
  · rw [up_ne (by decide), up_at]
theorem f136_t {L : Nat} {I : Nat → Nat → Int32} (x : Int32) (hL : L + 4 ≤ 500) (h : I 97 11 = nI L) : ∃ I', f_136 x I = some I' ∧ I' 97 11 = nI (L + 4) ∧ W4 (fun y => y &&& 255) x (I 102) (I' 102) L ∧ Fr [97, 102] I I' ∧ (∀ k, k ≠ 11 → I' 97 k = I 97 k) := by
  refine ⟨_, f136_s x hL h, up_at, ⟨fun i hi => ?_, ?_, ?_, ?_, ?_⟩, ((((((((Fr.refl _ _).up (by decide)).up (by decide)).up (by decide)).up (by decide)).up (by decide)).up (by decide)).up (by decide)).up (by decide), fun k hk => ?_⟩
  · rw [up_ne (by decide), up_nk (by omega), up_ne (by decide), up_nk (by omega), up_ne (by decide), up_nk (by omega), up_ne (by decide), up_nk (by omega)]
  · rw [up_ne (by decide), up_nk (by omega), up_ne (by decide), up_nk (by omega), up_ne (by decide), up_nk (by omega), up_ne (by decide), up_at]
  · rw [up_ne (by decide), up_nk (by omega), up_ne (by decide), up_nk (by omega), up_ne (by decide), up_at]
  · rw [up_ne (by decide), up_nk (by omega), up_ne (by decide), up_at]
  · rw [up_ne (by decide), up_at]
  · rw [up_nk hk, up_ne (by decide), up_nk hk, up_ne (by decide), up_nk hk, up_ne (by decide), up_nk hk, up_ne (by decide)]
def SB (L : Nat) (f g : Nat → Int32) : Prop := ∀ i, i < L → ∃ b, b < 256 ∧ f i = nI b ∧ (g i &&& 255) = nI b
theorem SB.w4 {L : Nat} {f g f' g' : Nat → Int32} {x : Int32} (h : SB L f g) (a : W4 (fun y => y &&& 255) x f f' L) (b : W4 (fun y => vp_nar .byte y.toInt8.toInt32) x g g' L) : SB (L + 4) f' g' := by
  obtain ⟨a0, a1, a2, a3, a4⟩ := a
  obtain ⟨b0, b1, b2, b3, b4⟩ := b
  intro i hi
  by_cases z : i < L
  · rw [a0 i z, b0 i z]
    exact h i z
  · have : i = L ∨ i = L + 1 ∨ i = L + 2 ∨ i = L + 3 := by omega
    rcases this with rfl | rfl | rfl | rfl
    · rw [a1, b1]; exact byt _
    · rw [a2, b2]; exact byt _
    · rw [a3, b3]; exact byt _
    · rw [a4, b4]; exact byt _
theorem feed_s {L : Nat} {I : Nat → Nat → Int32} (h : TapeP L I) (x1 x2 x3 x4 x5 : Int32) : ∃ a I1 I2 L', f_88 x1 x2 x3 x4 x5 I = some (a, I1) ∧ f_135 x1 x2 x3 x4 x5 I1 = some (a, I2) ∧ TapeP L' I2 ∧ I2 97 0 = nI 0 ∧ Fr [60, 61, 97, 102] I I2 ∧ (∀ k, k ≠ 0 → k ≠ 11 → I2 97 k = I 97 k) ∧ I1 0 = I 0 := by
  obtain ⟨h1, h2, h3, h4⟩ := h
  have tw : nI L + (20 : Int32) = nI (L + 20) := addN L 20
  by_cases q : 500 < L + 20
  · have q' : (500 : Int32) < nI (L + 20) := (ltN (a := 500) (by decide) (by omega)).mpr q
    refine ⟨-1, I, up I 97 0 (nI 0), L, ?_, ?_, ⟨h1, by rw [up_ne (by decide)]; exact h2, by rw [up_nk (by decide)]; exact h3, fun i hi => by rw [up_ne (by decide), up_ne (by decide)]; exact h4 i hi⟩, up_at, (Fr.refl _ _).up (by decide), fun k hk _ => by rw [up_nk hk], rfl⟩
    · rw [f_88, h2, tw, if_pos q']
    · have z : (up I 97 0 (0 : Int32)) 97 11 = nI L := by rw [up_nk (by decide)]; exact h3
      rw [f_135, z, tw, if_pos q']
      rfl
  · have q' : ¬ (500 : Int32) < nI (L + 20) := fun z => q ((ltN (a := 500) (by decide) (by omega)).mp z)
    obtain ⟨A1, a1, b1, c1, d1⟩ := f70_t x1 (L := L) (by omega) h2
    obtain ⟨A2, a2, b2, c2, d2⟩ := f70_t x2 (by omega) b1
    obtain ⟨A3, a3, b3, c3, d3⟩ := f70_t x3 (by omega) b2
    obtain ⟨A4, a4, b4, c4, d4⟩ := f70_t x4 (by omega) b3
    obtain ⟨A5, a5, b5, c5, d5⟩ := f70_t x5 (by omega) b4
    have dA := (((d1.trans d2).trans d3).trans d4).trans d5
    have z : (up A5 97 0 (0 : Int32)) 97 11 = nI L := by rw [up_nk (by decide), dA 97 (by decide)]; exact h3
    obtain ⟨B1, e1, f1, g1, i1, k1⟩ := f136_t x1 (L := L) (by omega) z
    obtain ⟨B2, e2, f2, g2, i2, k2⟩ := f136_t x2 (by omega) f1
    obtain ⟨B3, e3, f3, g3, i3, k3⟩ := f136_t x3 (by omega) f2
    obtain ⟨B4, e4, f4, g4, i4, k4⟩ := f136_t x4 (by omega) f3
    obtain ⟨B5, e5, f5, g5, i5, k5⟩ := f136_t x5 (by omega) f4
    have iB := (((i1.trans i2).trans i3).trans i4).trans i5
    have kB : ∀ k, k ≠ 11 → B5 97 k = (up A5 97 0 (0 : Int32)) 97 k := fun k hk => by rw [k5 k hk, k4 k hk, k3 k hk, k2 k hk, k1 k hk]
    have sb0 : SB L ((up A5 97 0 (0 : Int32)) 102) (I 61) := fun i hi => by
      rw [up_ne (by decide), dA 102 (by decide)]
      exact h4 i hi
    have sb := ((((sb0.w4 g1 c1).w4 g2 c2).w4 g3 c3).w4 g4 c4).w4 g5 c5
    have e61 : B5 61 = A5 61 := by rw [iB 61 (by decide), up_ne (by decide)]
    refine ⟨nI (L + 4 + 4 + 4 + 4 + 4), A5, B5, L + 4 + 4 + 4 + 4 + 4, ?_, ?_, ⟨by omega, ?_, f5, by rw [e61]; exact sb⟩, ?_, ?_, ?_, dA 0 (by decide)⟩
    · rw [f_88, h2, tw, if_neg q', a1, Option.bind_some, a2, Option.bind_some, a3, Option.bind_some, a4, Option.bind_some, a5, Option.bind_some, b5]
    · rw [f_135, z, tw, if_neg q', e1, Option.bind_some, e2, Option.bind_some, e3, Option.bind_some, e4, Option.bind_some, e5, Option.bind_some, f5]
    · rw [iB 60 (by decide), up_ne (by decide)]; exact b5
    · rw [kB 0 (by decide), up_at]; rfl
    · intro a ha
      have h60 : a ∉ [60, 61] := fun w => ha (by
        rcases List.mem_cons.mp w with rfl | w
        · decide
        · rcases List.mem_cons.mp w with rfl | w
          · decide
          · exact absurd w List.not_mem_nil)
      have h97 : a ∉ [97, 102] := fun w => ha (by
        rcases List.mem_cons.mp w with rfl | w
        · decide
        · rcases List.mem_cons.mp w with rfl | w
          · decide
          · exact absurd w List.not_mem_nil)
      have n97 : a ≠ 97 := fun w => h97 (by rw [w]; decide)
      rw [iB a h97, up_ne n97, dA a h60]
    · intro k k0 k11
      rw [kB k k11, up_nk k0, dA 97 (by decide)]
/-- feed, all told -/
theorem feed_i {Z I : Nat → Nat → Int32} (h : Inv Z I) (x1 x2 x3 x4 x5 : Int32) : ∃ a I1 I2, f_88 x1 x2 x3 x4 x5 I = some (a, I1) ∧ f_135 x1 x2 x3 x4 x5 I1 = some (a, I2) ∧ I1 0 = I 0 ∧ Inv Z I2 ∧ I2 97 0 = nI 0 := by
  obtain ⟨o, C, H, N, M, w, K, S, Y, L, g1, g2, g3, g4, g5, g6⟩ := h
  obtain ⟨a, I1, I2, L', e1, e2, e3, e4, f, k97, s0⟩ := feed_s g2 x1 x2 x3 x4 x5
  have c4 := g1.ch.2.2.2
  refine ⟨a, I1, I2, e1, e2, s0, ⟨o.fr f (by decide), C, H, N, M, w, K, S, Y, L', ?_, e3, g3.fr (by rw [f 84 (by decide)]) (by rw [f 84 (by decide)]) (k97 48 (by decide) (by decide)) (f 119 (by decide)), g4.fr (f 58 (by decide)) (f 103 (by decide)) (k97 13 (by decide) (by decide)), g5.fr c4 (by rw [f 87 (by decide)]) (k97 52 (by decide) (by decide)) (fun a ha => f a ?_), g6.fr c4 (by rw [f 58 (by decide)]) (by rw [f 92 (by decide)]) (k97 59 (by decide) (by decide)) (k97 60 (by decide) (by decide)) (fun a ha => f a ?_)⟩, e4⟩
  · obtain ⟨a1, a2, a3, a4, a5, a6, a7, a8, a9, b1, b2, b3⟩ := g1
    have e74 := f 74 (by decide)
    have e79 := f 79 (by decide)
    have e80 := f 80 (by decide)
    have e81 := f 81 (by decide)
    have e82 := f 82 (by decide)
    have e83 := f 83 (by decide)
    have e98 := f 98 (by decide)
    have e99 := f 99 (by decide)
    have e100 := f 100 (by decide)
    have e101 := f 101 (by decide)
    refine ⟨a1, a2, a3, a4, a5.fr (by rw [e74]) (by rw [e74]) (f 75 (by decide)) (f 76 (by decide)) (f 77 (by decide)), by rw [e79]; exact a6, fun d hd => by rw [e80, e81]; exact a7 d hd, fun d h hd hh => by rw [e82]; exact a8 d h hd hh, fun d p hd hp => by rw [e83]; exact a9 d p hd hp, ?_, b2, fun d hd => ?_⟩
    · rw [k97 1 (by decide) (by decide), k97 2 (by decide) (by decide), k97 3 (by decide) (by decide), k97 4 (by decide) (by decide), k97 5 (by decide) (by decide)]
      exact b1
    · obtain ⟨c1, c2, P, a, d1, d2, d3, d4⟩ := b3 d hd
      exact ⟨by rw [e98]; exact c1, by rw [e99]; exact c2, P, a, by rw [e100]; exact d1, d2, by rw [e101]; exact d3, d4⟩
  · rcases ha with rfl | rfl | rfl | rfl | rfl | rfl | rfl | rfl | rfl <;> decide
  · rcases ha with rfl | rfl | rfl | rfl | rfl | rfl | rfl | rfl | rfl <;> decide
