/-! the class's steps where a part is due -/
def PC (a0 : Nat) (P : List Int32) (Ws : List Nat) (cmp : Nat → Nat) (due x2 x4 : Nat) (I : Nat → Nat → Int32) : Prop := CSt a0 P Ws I ∧ I 67 9 = nI (dpt Ws) ∧ (∀ d, d ≤ dpt Ws → I 71 d = nI (cmp d)) ∧ I 67 13 = nI 0 ∧ I 67 12 = nI due ∧ (due = 1 → I 67 11 = nI x2 ∧ I 67 10 = nI x4)
/-- all but the rule under way stands -/
def Ur (y : Nat) (I I' : Nat → Nat → Int32) : Prop := Fr [67, 68, 70, 71] I I' ∧ ∀ x, x < y → I' 68 x = I 68 x
theorem Ur.refl (y : Nat) (I : Nat → Nat → Int32) : Ur y I I := ⟨Fr.refl _ _, fun _ _ => rfl⟩
theorem Ur.trans {y z : Nat} {I I' I'' : Nat → Nat → Int32} (h : Ur y I I') (h' : Ur z I' I'') (hz : y ≤ z) : Ur y I I'' := ⟨h.1.trans h'.1, fun x hx => (h'.2 x (by omega)).trans (h.2 x hx)⟩
theorem Uc.r {y : Nat} {I I' : Nat → Nat → Int32} (h : Uc y I I') : Ur y I I' := ⟨h.1.mono (by decide), h.2.2⟩
theorem Ur.up {y a k : Nat} {I I' : Nat → Nat → Int32} {v : Int32} (h : Ur y I I') (ha : a = 67 ∨ a = 71) : Ur y I (up I' a k v) := by
  rcases ha with rfl | rfl
  · exact ⟨h.1.up (by decide), fun x hx => by rw [up_ne (by decide)]; exact h.2 x hx⟩
  · exact ⟨h.1.up (by decide), fun x hx => by rw [up_ne (by decide)]; exact h.2 x hx⟩
section DU
variable {a0 : Nat} {P : List Int32} {Ws : List Nat} {cmp : Nat → Nat} {x2 x4 s e kd v sg W : Nat} {I : Nat → Nat → Int32}
theorem kdN {a b : Nat} {c : Int32} (ha : a < 256) (hb : b < 256) (hc : c = nI b) : (nI a = c) = (a = b) := by
  rw [hc]
  exact propext (eqN (by omega) (by omega))
/-- a bracket opens -/
theorem c28_p (h : PC a0 P Ws cmp 1 x2 x4 I) (k : CT s e 3 v 40 I) (hw : wf Ws) (hd : dpt Ws ≤ 5) : ∃ I', f_28 I W = some (0, I') ∧ PC a0 P (16 :: Ws) (fun d => if d = dpt Ws + 1 then 0 else cmp d) 1 1 0 I' ∧ Ur (a0 + P.length) I I' := by
  obtain ⟨h1, h2, h3, h4, h5, h6⟩ := h
  obtain ⟨k1, k2, k3, k4, k5⟩ := k
  obtain ⟨l1, l2⟩ := hw.len
  have t := hw.top.1
  obtain ⟨I1, a1, a2, a3⟩ := f37_s (k := 16) h1 (by omega)
  have d1 : I1 67 9 = nI (dpt Ws) := by rw [a3.2.1 9 (by decide) (by decide)]; exact h2
  have one : nI (dpt Ws) + (1 : Int32) = nI (dpt Ws + 1) := addN _ 1
  have dp : dpt (16 :: Ws) = dpt Ws + 1 := rfl
  have nb : vp_nar .boolean (0 : Int32) = nI 0 := rfl
  have n0 : ¬ nI (dpt Ws + 1) < 0 := negN (by omega)
  have i7 : ex_in (nI (dpt Ws + 1)) 7 := (inN (by omega)).mpr (by omega)
  have l7 : nI (dpt Ws + 1) < nI 7 := (ltN (by omega) (by decide)).mpr (by omega)
  have c7 : (nI (dpt Ws + 1)).toNatClampNeg = dpt Ws + 1 := clN (by omega)
  have g41 : f_41 (0 : Int32) (up I1 67 9 (nI (dpt Ws + 1))) = some (up (up I1 67 9 (nI (dpt Ws + 1))) 71 (dpt Ws + 1) (nI 0)) := by
    have e9 : (up I1 67 9 (nI (dpt Ws + 1))) 67 9 = nI (dpt Ws + 1) := up_at
    rw [f_41, e9, if_neg n0, if_pos l7, if_pos i7, c7, nb]
    rfl
  have g26 : f_26 (up I1 67 9 (nI (dpt Ws + 1))) = some (up (up (up (up (up I1 67 9 (nI (dpt Ws + 1))) 71 (dpt Ws + 1) (nI 0)) 67 12 (nI 1)) 67 11 (nI 1)) 67 10 (nI 0)) := by
    rw [f_26, g41, Option.bind_some]
    rfl
  have u : Ur (a0 + P.length) I (up (up (up (up (up I1 67 9 (nI (dpt Ws + 1))) 71 (dpt Ws + 1) (nI 0)) 67 12 (nI 1)) 67 11 (nI 1)) 67 10 (nI 0)) := ((((a3.r.up (Or.inl rfl)).up (Or.inr rfl)).up (Or.inl rfl)).up (Or.inl rfl)).up (Or.inl rfl)
  refine ⟨_, ?_, ⟨⟨?_, ?_, ?_, ?_⟩, ?_, fun d hd' => ?_, ?_, ?_, fun _ => ⟨?_, ?_⟩⟩, u⟩
  · have l6 : nI (dpt Ws) < (6 : Int32) := (ltN (b := 6) (by omega) (by decide)).mpr (by omega)
    rw [f_28, k5, if_pos (show nI 40 = (40 : Int32) from rfl), lb_28_2, if_neg (show ¬ (1 : Int32) = 0 by decide), lb_28_3, h2, if_pos l6, if_neg (show ¬ (1 : Int32) = 0 by decide), show f_37 ((-16) : Int32) I = some I1 from a1, Option.bind_some]
    dsimp only
    rw [d1, one, g26]
    rfl
  · rw [up_nk (by decide), up_nk (by decide), up_nk (by decide), up_ne (by decide), up_nk (by decide)]; exact a2.1
  · rw [up_ne (by decide), up_ne (by decide), up_ne (by decide), up_ne (by decide), up_ne (by decide)]; exact a2.2.1
  · rw [up_nk (by decide), up_nk (by decide), up_nk (by decide), up_ne (by decide), up_nk (by decide)]; exact a2.2.2.1
  · rw [up_ne (by decide), up_ne (by decide), up_ne (by decide), up_ne (by decide), up_ne (by decide)]; exact a2.2.2.2
  · rw [up_nk (by decide), up_nk (by decide), up_nk (by decide), up_ne (by decide), up_at, dp]
  · rw [up_ne (by decide), up_ne (by decide), up_ne (by decide)]
    dsimp only
    by_cases z : d = dpt Ws + 1
    · rw [if_pos z, z, up_at]
    · rw [if_neg z, up_nk z, up_ne (by decide), a3.1 71 (by decide)]
      exact h3 d (by omega)
  · rw [up_nk (by decide), up_nk (by decide), up_nk (by decide), up_ne (by decide), up_nk (by decide), a3.2.1 13 (by decide) (by decide)]; exact h4
  · rw [up_nk (by decide), up_nk (by decide), up_at]
  · rw [up_nk (by decide), up_at]
  · rw [up_at]
/-- too deep -/
theorem c28_d (h : PC a0 P Ws cmp 1 x2 x4 I) (k : CT s e kd v sg I) (hk : kd = 1 ∨ kd = 2 ∨ (kd = 3 ∧ sg = 40)) (hsg : sg < 256) (hd : dpt Ws = 6) : f_28 I W = some (2, I) := by
  obtain ⟨h1, h2, h3, h4, h5, h6⟩ := h
  obtain ⟨k1, k2, k3, k4, k5⟩ := k
  have l6 : ¬ nI (dpt Ws) < (6 : Int32) := by rw [hd]; decide
  have g : ∀ x, lb_28_3 x I W = some (2, I) := fun x => by rw [lb_28_3, h2, if_neg l6]
  rw [f_28, k5]
  by_cases q : sg = 40
  · rw [if_pos (show nI sg = (40 : Int32) by rw [q]; rfl), lb_28_2, if_neg (show ¬ (1 : Int32) = 0 by decide), g]
  · have e40 : ¬ nI sg = (40 : Int32) := fun z => q ((eqN (b := 40) (by omega) (by decide)).mp z)
    rw [if_neg e40, lb_28_2, if_pos rfl, k3]
    rcases hk with rfl | rfl | hk
    · rw [if_neg (show ¬ nI 1 = (2 : Int32) by decide), if_pos (show nI 1 = (1 : Int32) from rfl), g]
    · rw [if_pos (show nI 2 = (2 : Int32) from rfl), g]
    · exact absurd hk.2 q
/-- no part begins so -/
theorem c28_e (k : CT s e kd v sg I) (hk : kd = 0 ∨ (kd = 3 ∧ sg ≠ 40)) (hs0 : kd = 0 → sg = 0) (hsg : sg < 256) : f_28 I W = some (1, I) := by
  obtain ⟨k1, k2, k3, k4, k5⟩ := k
  have q : sg ≠ 40 := by
    rcases hk with hk | hk
    · rw [hs0 hk]; decide
    · exact hk.2
  have e40 : ¬ nI sg = (40 : Int32) := fun z => q ((eqN (b := 40) (by omega) (by decide)).mp z)
  rw [f_28, k5, if_neg e40, lb_28_2, if_pos rfl, k3]
  rcases hk with rfl | ⟨rfl, _⟩
  · rw [if_neg (show ¬ nI 0 = (2 : Int32) by decide), if_neg (show ¬ nI 0 = (1 : Int32) by decide)]
  · rw [if_neg (show ¬ nI 3 = (2 : Int32) by decide), if_neg (show ¬ nI 3 = (1 : Int32) by decide)]
/-- not -/
theorem c28_n (h : PC a0 P Ws cmp 1 1 x4 I) (k : CT s e 1 v 0 I) (hw : wf Ws) (hd : dpt Ws ≤ 5) (hx : x4 ≤ 6) : (x4 = 6 → f_28 I 16 = some (2, I)) ∧ (x4 < 6 → ∃ I', f_28 I 16 = some (0, I') ∧ PC a0 P (9 :: Ws) cmp 1 1 (x4 + 1) I' ∧ Ur (a0 + P.length) I I') := by
  obtain ⟨h1, h2, h3, h4, h5, h6⟩ := h
  obtain ⟨k1, k2, k3, k4, k5⟩ := k
  obtain ⟨g11, g10⟩ := h6 rfl
  obtain ⟨l1, l2⟩ := hw.len
  have t := hw.top.1
  have l6 : nI (dpt Ws) < (6 : Int32) := (ltN (b := 6) (by omega) (by decide)).mpr (by omega)
  have head : f_28 I 16 = (f_29 I).bind fun q3 => some (q3.1, q3.2) := by
    rw [f_28, k5, if_neg (show ¬ nI 0 = (40 : Int32) by decide), lb_28_2, if_pos rfl, k3, if_neg (show ¬ nI 1 = (2 : Int32) by decide), if_pos (show nI 1 = (1 : Int32) from rfl), lb_28_3, h2, if_pos l6, if_pos rfl, if_pos (show isw 16 ∧ isw 16 by decide), if_pos rfl, g11, if_neg (show ¬ nI 1 = 0 by decide)]
  constructor
  · intro e6
    rw [head, f_29, g10, e6, if_neg (show ¬ nI 6 < (6 : Int32) by decide)]
    rfl
  · intro l
    have one : nI x4 + (1 : Int32) = nI (x4 + 1) := addN _ 1
    have c1 : CSt a0 P Ws (up I 67 10 (nI (x4 + 1))) := ⟨by rw [up_nk (by decide)]; exact h1.1, by rw [up_ne (by decide)]; exact h1.2.1, by rw [up_nk (by decide)]; exact h1.2.2.1, by rw [up_ne (by decide)]; exact h1.2.2.2⟩
    obtain ⟨I1, a1, a2, a3⟩ := f37_s (k := 9) c1 (by omega)
    refine ⟨I1, ?_, ⟨a2, ?_, fun d hd' => ?_, ?_, ?_, fun _ => ⟨?_, ?_⟩⟩, ((Ur.refl _ I).up (Or.inl rfl)).trans a3.r (Nat.le_refl _)⟩
    · rw [head, f_29, g10, if_pos (show nI x4 < (6 : Int32) from (ltN (b := 6) (by omega) (by decide)).mpr l), one]
      dsimp only
      rw [show f_37 ((-9) : Int32) (up I 67 10 (nI (x4 + 1))) = some I1 from a1]
      rfl
    · rw [a3.2.1 9 (by decide) (by decide), up_nk (by decide)]; exact h2
    · rw [a3.1 71 (by decide), up_ne (by decide)]; exact h3 d hd'
    · rw [a3.2.1 13 (by decide) (by decide), up_nk (by decide)]; exact h4
    · rw [a3.2.1 12 (by decide) (by decide), up_nk (by decide)]; exact h5
    · rw [a3.2.1 11 (by decide) (by decide), up_nk (by decide)]; exact g11
    · rw [a3.2.1 10 (by decide) (by decide), up_at]
/-- a value is written -/
theorem emit_s {c : Int32} (h : PC a0 P Ws cmp 1 x2 x4 I) (hb : a0 + P.length < 500) : ∃ I', f_39 c I = some I' ∧ PC a0 (P ++ [c]) Ws cmp 0 x2 x4 (up I' 67 12 (nI 0)) ∧ Ur (a0 + P.length) I (up I' 67 12 (nI 0)) := by
  obtain ⟨h1, h2, h3, h4, h5, h6⟩ := h
  obtain ⟨I1, a1, a2, a3⟩ := f39_s c h1 hb
  refine ⟨I1, a1, ⟨⟨by rw [up_nk (by decide)]; exact a2.1, by rw [up_ne (by decide)]; exact a2.2.1, by rw [up_nk (by decide)]; exact a2.2.2.1, by rw [up_ne (by decide)]; exact a2.2.2.2⟩, ?_, fun d hd => ?_, ?_, up_at, fun z => absurd z (by decide)⟩, a3.r.up (Or.inl rfl)⟩
  · rw [up_nk (by decide), a3.2.1 9 (by decide) (by decide)]; exact h2
  · rw [up_ne (by decide), a3.1 71 (by decide)]; exact h3 d hd
  · rw [up_nk (by decide), a3.2.1 13 (by decide) (by decide)]; exact h4
/-- a number -/
theorem c28_v (h : PC a0 P Ws cmp 1 x2 x4 I) (k : CT s e 2 v 0 I) (hs : s ≤ e) (he : e ≤ 500) (hd : dpt Ws ≤ 5) (hb : a0 + P.length < 500) : (4 < e - s → f_28 I 17 = some (2, I)) ∧ (e - s ≤ 4 → ∃ I', f_28 I 17 = some (0, I') ∧ PC a0 (P ++ [nI v]) Ws cmp 0 x2 x4 I' ∧ Ur (a0 + P.length) I I') := by
  have h0 := h
  obtain ⟨h1, h2, h3, h4, h5, h6⟩ := h
  obtain ⟨k1, k2, k3, k4, k5⟩ := k
  have l6 : nI (dpt Ws) < (6 : Int32) := (ltN (b := 6) (by omega) (by decide)).mpr (by omega)
  have head : f_28 I 17 = (f_30 I).bind fun q2 => lb_28_8 q2.1 q2.2 17 := by
    rw [f_28, k5, if_neg (show ¬ nI 0 = (40 : Int32) by decide), lb_28_2, if_pos rfl, k3, if_pos (show nI 2 = (2 : Int32) from rfl), lb_28_3, h2, if_pos l6, if_pos rfl, if_pos (show isw 17 ∧ isw 16 by decide), if_neg (show ¬ 17 = 16 by decide), lb_28_6, k3, if_pos (show nI 2 = (2 : Int32) from rfl)]
  have g75 : f_75 I = some (nI (if 4 < e - s then 1 else 0)) := by
    rw [f_75, k3, if_pos (show nI 2 = (2 : Int32) from rfl), k1, k2, subN hs]
    by_cases q : 4 < e - s
    · rw [if_pos q, if_pos (show (4 : Int32) < nI (e - s) from (ltN (a := 4) (by decide) (by omega)).mpr q)]
      rfl
    · rw [if_neg q, if_neg (show ¬ (4 : Int32) < nI (e - s) from fun z => q ((ltN (a := 4) (by decide) (by omega)).mp z))]
      rfl
  constructor
  · intro q
    rw [head, f_30, g75, Option.bind_some, b01, if_pos q]
    rfl
  · intro q
    obtain ⟨I1, a1, a2, a3⟩ := emit_s (c := nI v) h0 hb
    refine ⟨_, ?_, a2, a3⟩
    rw [head, f_30, g75, Option.bind_some, b01, if_neg (by omega), k4, a1]
    rfl
/-- the words' values -/
def wcd (W : Nat) : Int32 := [0, -4, -3, 0, -2, -1, -5, -6].getD W 0
def WC (I : Nat → Nat → Int32) : Prop := ∀ W, 1 ≤ W → W ≤ 17 → I W 1 = wcd W
theorem c28_w (h : PC a0 P Ws cmp 1 x2 x4 I) (k : CT s e 1 v 0 I) (c : WC I) (hW : 1 ≤ W ∧ W ≤ 17) (hx : x2 < 2) (hn : W = 16 → x2 = 0) (hd : dpt Ws ≤ 5) (hb : a0 + P.length < 500) : (wcd W = 0 → f_28 I W = some (3, I)) ∧ (wcd W ≠ 0 → ∃ I', f_28 I W = some (0, I') ∧ PC a0 (P ++ [wcd W]) Ws cmp 0 x2 x4 I' ∧ Ur (a0 + P.length) I I') := by
  have h0 := h
  obtain ⟨h1, h2, h3, h4, h5, h6⟩ := h
  obtain ⟨k1, k2, k3, k4, k5⟩ := k
  obtain ⟨g11, g10⟩ := h6 rfl
  have l6 : nI (dpt Ws) < (6 : Int32) := (ltN (b := 6) (by omega) (by decide)).mpr (by omega)
  have iw : isw W := hW
  have tl : lb_28_6 I W = (f_31 I W).bind fun q1 => lb_28_8 q1.1 q1.2 W := by
    rw [lb_28_6, k3, if_neg (show ¬ nI 1 = (2 : Int32) by decide)]
  have head : f_28 I W = (f_31 I W).bind fun q1 => lb_28_8 q1.1 q1.2 W := by
    rw [f_28, k5, if_neg (show ¬ nI 0 = (40 : Int32) by decide), lb_28_2, if_pos rfl, k3, if_neg (show ¬ nI 1 = (2 : Int32) by decide), if_pos (show nI 1 = (1 : Int32) from rfl), lb_28_3, h2, if_pos l6, if_pos rfl, if_pos (show isw W ∧ isw 16 from ⟨iw, by decide⟩)]
    by_cases q : W = 16
    · rw [if_pos q, g11, hn q, if_pos (show nI 0 = 0 from rfl), tl]
    · rw [if_neg q, tl]
  constructor
  · intro q
    rw [head, f_31, if_pos iw, c W hW.1 hW.2, if_pos q]
    rfl
  · intro q
    obtain ⟨I1, a1, a2, a3⟩ := emit_s (c := wcd W) h0 hb
    refine ⟨_, ?_, a2, a3⟩
    rw [head, f_31, if_pos iw, c W hW.1 hW.2, if_neg q, if_pos iw, a1]
    rfl
end DU
