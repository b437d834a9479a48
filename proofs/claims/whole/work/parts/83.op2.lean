/-! the class's steps behind a part, by the token -/
section OQ
variable {a0 : Nat} {P : List Int32} {Ws : List Nat} {cmp : Nat → Nat} {x2 x4 s e kd v sg W : Nat} {I : Nat → Nat → Int32}
theorem c32_h (k : CT s e kd v sg I) (hsg : sg < 256) (hW : 1 ≤ W ∧ W ≤ 17) (n1 : sg ≠ 59) (n2 : sg ≠ 41) : f_32 I W = if opk W sg = 0 then some (1, I) else if opk W sg = 10 ∨ opk W sg = 11 then lb_32_4 (cc (opk W sg)) I W else lb_32_6 (cc (opk W sg)) I W := by
  obtain ⟨k1, k2, k3, k4, k5⟩ := k
  have a1 : ¬ nI sg = (59 : Int32) := fun z => n1 ((eqN (b := 59) (by omega) (by decide)).mp z)
  have a2 : ¬ nI sg = (41 : Int32) := fun z => n2 ((eqN (b := 41) (by omega) (by decide)).mp z)
  have o16 : opk W sg < 16 := by unfold opk; repeat' split
                                 all_goals decide
  have c : ∀ k, k < 16 → (k = 0 ∨ 7 ≤ k) → (cc k = 0 ↔ k = 0) ∧ (cc k = (-10) ↔ k = 10) ∧ (cc k = (-11) ↔ k = 11) := by decide
  have o7 : opk W sg = 0 ∨ 7 ≤ opk W sg := by unfold opk; repeat' split
                                              all_goals decide
  obtain ⟨c0, c10, c11⟩ := c (opk W sg) o16 o7
  rw [f_32, k5, if_neg a1, if_neg a2, f35_s k5 hsg hW, Option.bind_some]
  by_cases q0 : opk W sg = 0
  · rw [if_pos (c0.mpr q0), if_pos q0]
  · rw [if_neg (fun z => q0 (c0.mp z)), if_neg q0]
    by_cases q10 : opk W sg = 10
    · rw [if_pos (c10.mpr q10), if_pos (Or.inl q10)]
    · rw [if_neg (fun z => q10 (c10.mp z))]
      by_cases q11 : opk W sg = 11
      · rw [if_pos (c11.mpr q11), if_pos (Or.inr q11)]
      · rw [if_neg (fun z => q11 (c11.mp z)), if_neg (fun z => z.elim q10 q11)]
theorem f40_s (h : PC a0 P Ws cmp 0 x2 x4 I) (hd : dpt Ws ≤ 5) (hc : cmp (dpt Ws) < 2) : f_40 I = some (nI (if 0 < cmp (dpt Ws) then 1 else 0)) := by
  have n0 : ¬ nI (dpt Ws) < 0 := negN (by omega)
  rw [f_40, h.2.1, if_neg n0, if_pos ((ltN (by omega) (by decide)).mpr (by omega)), if_pos ((inN (by omega)).mpr (by omega)), clN (by omega), h.2.2.1 _ (Nat.le_refl _)]
  by_cases q : 0 < cmp (dpt Ws)
  · rw [if_pos q, if_neg (fun z => by have := (eqN (b := 0) (by omega) (by decide)).mp z; omega)]
    rfl
  · rw [if_neg q, if_pos (by rw [show cmp (dpt Ws) = 0 by omega]; rfl)]
    rfl
/-- a comparison -/
theorem c32_4 {k : Nat} (h : PC a0 P Ws cmp 0 x2 x4 I) (hw : wf Ws) (hd : dpt Ws ≤ 5) (hb : a0 + P.length + Ws.length ≤ 500) (hk : k = 10 ∨ k = 11) (hc : cmp (dpt Ws) < 2) : (0 < cmp (dpt Ws) → lb_32_4 (cc k) I W = some (1, I)) ∧ (cmp (dpt Ws) = 0 → ∃ I', lb_32_4 (cc k) I W = some (0, I') ∧ PC a0 (P ++ (fls (prk k) Ws).1.map cc) (k :: (fls (prk k) Ws).2) (fun d => if d = dpt Ws then 1 else cmp d) 1 0 0 I' ∧ Ur (a0 + P.length) I I') := by
  have g := f40_s h hd hc
  constructor
  · intro q
    rw [lb_32_4, g, if_pos q, Option.bind_some, if_neg (show ¬ nI 1 = 0 by decide)]
  · intro q
    have h1 : PC a0 P Ws (fun d => if d = dpt Ws then 1 else cmp d) 0 x2 x4 (up I 71 (dpt Ws) (nI 1)) := by
      obtain ⟨h1, h2, h3, h4, h5, h6⟩ := h
      refine ⟨⟨by rw [up_ne (by decide)]; exact h1.1, by rw [up_ne (by decide)]; exact h1.2.1, by rw [up_ne (by decide)]; exact h1.2.2.1, by rw [up_ne (by decide)]; exact h1.2.2.2⟩, by rw [up_ne (by decide)]; exact h2, fun d hd' => ?_, by rw [up_ne (by decide)]; exact h4, by rw [up_ne (by decide)]; exact h5, fun z => absurd z (by decide)⟩
      dsimp only
      by_cases z : d = dpt Ws
      · rw [if_pos z, z, up_at]
      · rw [if_neg z, up_nk z]; exact h3 d hd'
    obtain ⟨I', a1, a2, a3⟩ := c32_6 (k := k) (W := W) h1 hw hd hb (by omega) (by omega) (by omega)
    have e : (fun d => if (k = 7 ∨ k = 8) ∧ d = dpt Ws then 0 else (if d = dpt Ws then 1 else cmp d)) = fun d => if d = dpt Ws then 1 else cmp d := by
      funext d
      rw [if_neg (fun z => by have := z.1; omega)]
    rw [e, if_neg (show ¬ (k = 7 ∨ k = 8) by omega)] at a2
    refine ⟨I', ?_, a2, ((Ur.refl _ I).up (Or.inr rfl)).trans a3 (Nat.le_refl _)⟩
    rw [lb_32_4, g, if_neg (by omega), Option.bind_some, if_pos (show nI 0 = 0 from rfl), show f_41 (1 : Int32) I = some (up I 71 (dpt Ws) (nI 1)) from f41_s h hd (by decide), Option.bind_some]
    exact a1
/-- a bracket closes -/
theorem c34_s (h : PC a0 P Ws cmp 0 x2 x4 I) (k : CT s e 3 v 41 I) (hw : wf Ws) (hd : dpt Ws ≤ 5) (hb : a0 + P.length + Ws.length ≤ 500) : (dpt Ws = 0 → f_32 I W = some (1, I)) ∧ (0 < dpt Ws → ∃ Vs I', (fls 1 Ws).2 = 16 :: Vs ∧ dpt Ws = dpt Vs + 1 ∧ f_32 I W = some (0, I') ∧ PC a0 (P ++ (fls 1 Ws).1.map cc) Vs cmp 0 x2 x4 I' ∧ Ur (a0 + P.length) I I') := by
  obtain ⟨h1, h2, h3, h4, h5, h6⟩ := h
  obtain ⟨k1, k2, k3, k4, k5⟩ := k
  have head : f_32 I W = (f_34 I).bind fun q10 => some (q10.1, q10.2) := by
    rw [f_32, k5, if_neg (show ¬ nI 41 = (59 : Int32) by decide), if_pos (show nI 41 = (41 : Int32) from rfl)]
  constructor
  · intro q
    rw [head, f_34, h2, q, if_neg (show ¬ 0 < nI 0 by decide)]
    rfl
  · intro q
    obtain ⟨Vs, v1, v2⟩ := (fls_close hw).2 q
    obtain ⟨l1, l2⟩ := hw.len
    have t := hw.top.1
    obtain ⟨I1, a1, a2, a3⟩ := f38_s (a0 := a0) (p := 1) (by decide) Ws FU P I hw.vld (FU_big (by omega)) (by omega) hb h1
    rw [v1] at a2
    have pos : (0 : Int32) < nI (dpt Ws) := (ltN (a := 0) (by decide) (by omega)).mpr q
    have sl : (fls 1 Ws).2.length ≤ Ws.length := by
      have := congrArg List.length (fls_app 1 Ws)
      rw [List.length_append] at this
      omega
    rw [v1, List.length_cons] at sl
    have len : I1 67 8 = nI (Vs.length + 1) := a2.2.2.1
    have sub : nI (Vs.length + 1) - (1 : Int32) = nI Vs.length := subN (a := Vs.length + 1) (b := 1) (by omega)
    have g212 : f_212 (nI Vs.length) (0 : Int32) = some (nI Vs.length) := by
      have n0 : ¬ nI Vs.length < 0 := negN (by omega)
      rw [f_212, if_neg n0]
      rfl
    have d9 : I1 67 9 = nI (dpt Vs + 1) := by rw [a3.2.1 9 (by decide) (by decide), h2, v2]
    have sub2 : nI (dpt Vs + 1) - (1 : Int32) = nI (dpt Vs) := subN (a := dpt Vs + 1) (b := 1) (by omega)
    refine ⟨Vs, up (up I1 67 8 (nI Vs.length)) 67 9 (nI (dpt Vs)), v1, v2, ?_, ⟨⟨?_, ?_, ?_, ?_⟩, up_at, fun d hd' => ?_, ?_, ?_, fun z => absurd z (by decide)⟩, (a3.r.up (Or.inl rfl)).up (Or.inl rfl)⟩
    · rw [head, f_34, h2, if_pos pos, show f_36 ((-7) : Int32) = some (nI 1) from rfl, Option.bind_some, show f_38 (nI 1) I = some I1 from a1, Option.bind_some, len, sub, g212, Option.bind_some]
      dsimp only
      rw [up_nk (by decide), d9, sub2]
      rfl
    · rw [up_nk (by decide), up_nk (by decide)]; exact a2.1
    · rw [up_ne (by decide), up_ne (by decide)]; exact a2.2.1
    · rw [up_nk (by decide), up_at]
    · rw [up_ne (by decide), up_ne (by decide)]; exact a2.2.2.2.2
    · rw [up_ne (by decide), up_ne (by decide), a3.1 71 (by decide)]; exact h3 d (by omega)
    · rw [up_nk (by decide), up_nk (by decide), a3.2.1 13 (by decide) (by decide)]; exact h4
    · rw [up_nk (by decide), up_nk (by decide), a3.2.1 12 (by decide) (by decide)]; exact h5
/-- the rule ends -/
theorem c33_s (h : PC a0 P Ws cmp 0 x2 x4 I) (k : CT s e 3 v 59 I) (hw : wf Ws) (hd : dpt Ws ≤ 5) (hb : a0 + P.length + Ws.length ≤ 500) : (0 < dpt Ws → f_32 I W = some (1, I)) ∧ (dpt Ws = 0 → ∃ I', f_32 I W = some (0, I') ∧ I' 67 13 = nI 1 ∧ CSt a0 (P ++ (fls 1 Ws).1.map cc) [] I' ∧ Ur (a0 + P.length) I I') := by
  obtain ⟨h1, h2, h3, h4, h5, h6⟩ := h
  obtain ⟨k1, k2, k3, k4, k5⟩ := k
  have head : f_32 I W = (f_33 I).bind fun q10 => some (q10.1, q10.2) := by
    rw [f_32, k5, if_pos (show nI 59 = (59 : Int32) from rfl)]
  constructor
  · intro q
    have pos : (0 : Int32) < nI (dpt Ws) := (ltN (a := 0) (by decide) (by omega)).mpr q
    rw [head, f_33, h2, if_pos pos]
    rfl
  · intro q
    have v1 := (fls_close hw).1 q
    obtain ⟨l1, l2⟩ := hw.len
    have t := hw.top.1
    obtain ⟨I1, a1, a2, a3⟩ := f38_s (a0 := a0) (p := 1) (by decide) Ws FU P I hw.vld (FU_big (by omega)) (by omega) hb h1
    rw [v1] at a2
    refine ⟨up I1 67 13 (nI 1), ?_, up_at, ⟨by rw [up_nk (by decide)]; exact a2.1, by rw [up_ne (by decide)]; exact a2.2.1, by rw [up_nk (by decide)]; exact a2.2.2.1, trivial⟩, a3.r.up (Or.inl rfl)⟩
    rw [head, f_33, h2, q, if_neg (show ¬ 0 < nI 0 by decide), show f_36 ((-7) : Int32) = some (nI 1) from rfl, Option.bind_some, show f_38 (nI 1) I = some I1 from a1, Option.bind_some]
    rfl
end OQ
