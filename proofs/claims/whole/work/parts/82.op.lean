/-! the class's steps behind a part -/
def opk (W sg : Nat) : Nat := if W = 14 then 7 else if W = 15 then 8 else if sg = 60 then 10 else if sg = 61 then 11 else if sg = 43 then 12 else if sg = 45 then 13 else if sg = 42 then 14 else if sg = 47 then 15 else 0
section OP
variable {a0 : Nat} {P : List Int32} {Ws : List Nat} {cmp : Nat → Nat} {x2 x4 s e kd v sg W : Nat} {I : Nat → Nat → Int32}
theorem f35_s (h8 : I 60 8 = nI sg) (hsg : sg < 256) (hW : 1 ≤ W ∧ W ≤ 17) : f_35 I W = some (cc (opk W sg)) := by
  have i14 : isw W ∧ isw 14 := ⟨hW, by decide⟩
  have i15 : isw W ∧ isw 15 := ⟨hW, by decide⟩
  rw [f_35, if_pos i14, opk]
  by_cases q14 : W = 14
  · rw [if_pos q14, if_pos q14]
    rfl
  · rw [if_neg q14, if_neg q14, if_pos i15]
    by_cases q15 : W = 15
    · rw [if_pos q15, if_pos q15]
      rfl
    · rw [if_neg q15, if_neg q15, h8]
      by_cases y : sg = 60 ∨ sg = 61 ∨ sg = 43 ∨ sg = 45 ∨ sg = 42 ∨ sg = 47
      · rcases y with rfl | rfl | rfl | rfl | rfl | rfl <;> rfl
      · have n : ∀ b : Nat, b < 256 → sg ≠ b → ¬ nI sg = nI b := fun b hb hne z => hne ((eqN (by omega) (by omega)).mp z)
        have a1 : ¬ nI sg = (60 : Int32) := n 60 (by decide) (by omega)
        have a2 : ¬ nI sg = (61 : Int32) := n 61 (by decide) (by omega)
        have a3 : ¬ nI sg = (43 : Int32) := n 43 (by decide) (by omega)
        have a4 : ¬ nI sg = (45 : Int32) := n 45 (by decide) (by omega)
        have a5 : ¬ nI sg = (42 : Int32) := n 42 (by decide) (by omega)
        have a6 : ¬ nI sg = (47 : Int32) := n 47 (by decide) (by omega)
        rw [if_neg (show ¬ sg = 60 by omega), if_neg (show ¬ sg = 61 by omega), if_neg (show ¬ sg = 43 by omega), if_neg (show ¬ sg = 45 by omega), if_neg (show ¬ sg = 42 by omega), if_neg (show ¬ sg = 47 by omega)]
        simp only [a1, a2, a3, a4, a5, a6, if_false, ite_self]
        rfl
theorem f41_s {b : Nat} (h : PC a0 P Ws cmp 0 x2 x4 I) (hd : dpt Ws ≤ 5) (hb : b < 2) : f_41 (nI b) I = some (up I 71 (dpt Ws) (nI b)) := by
  have n0 : ¬ nI (dpt Ws) < 0 := negN (by omega)
  have nb : vp_nar .boolean (nI b) = nI b := by
    have : b = 0 ∨ b = 1 := by omega
    rcases this with rfl | rfl <;> rfl
  rw [f_41, h.2.1, if_neg n0, if_pos ((ltN (by omega) (by decide)).mpr (by omega)), if_pos ((inN (by omega)).mpr (by omega)), clN (by omega), nb]
  rfl
/-- one that joins -/
theorem c32_6 {k : Nat} (h : PC a0 P Ws cmp 0 x2 x4 I) (hw : wf Ws) (hd : dpt Ws ≤ 5) (hb : a0 + P.length + Ws.length ≤ 500) (h7 : 7 ≤ k) (h16 : k < 16) (h9 : k ≠ 9) : ∃ I', lb_32_6 (cc k) I W = some (0, I') ∧ PC a0 (P ++ (fls (prk k) Ws).1.map cc) (k :: (fls (prk k) Ws).2) (fun d => if (k = 7 ∨ k = 8) ∧ d = dpt Ws then 0 else cmp d) 1 (if k = 7 ∨ k = 8 then 1 else 0) 0 I' ∧ Ur (a0 + P.length) I I' := by
  have h0 := h
  obtain ⟨h1, h2, h3, h4, h5, h6⟩ := h
  obtain ⟨g1, g2, _, _, _, g6⟩ := ccs k (by omega) h7
  obtain ⟨_, p0⟩ := g6 (by omega)
  obtain ⟨l1, l2⟩ := hw.len
  have t := hw.top.1
  obtain ⟨I1, a1, a2, a3⟩ := f38_s (a0 := a0) (p := prk k) (by omega) Ws FU P I hw.vld (FU_big (by omega)) (by omega) hb h1
  have sl : (fls (prk k) Ws).2.length ≤ Ws.length := by
    have := congrArg List.length (fls_app (prk k) Ws)
    rw [List.length_append] at this
    omega
  obtain ⟨I2, b1, b2, b3⟩ := f37_s (k := k) a2 (by omega)
  have u2 : Ur (a0 + P.length) I I2 := a3.r.trans b3.r (by rw [List.length_append]; omega)
  obtain ⟨d1, _, _⟩ := fls_dpt (p := prk k) p0 Ws
  have dk : dpt (k :: (fls (prk k) Ws).2) = dpt Ws := by rw [dpt, if_neg (by omega), d1]; rfl
  have kp : ∀ x, x ≠ 7 → x ≠ 8 → I2 67 x = I 67 x := fun x y7 y8 => by rw [b3.2.1 x y7 y8, a3.2.1 x y7 y8]
  have e71 : I2 71 = I 71 := by rw [b3.1 71 (by decide), a3.1 71 (by decide)]
  have st : ∀ J : Nat → Nat → Int32, J 67 7 = I2 67 7 → J 67 8 = I2 67 8 → J 68 = I2 68 → J 70 = I2 70 → CSt a0 (P ++ (fls (prk k) Ws).1.map cc) (k :: (fls (prk k) Ws).2) J := fun J e7 e8 e68 e70 => ⟨by rw [e7]; exact b2.1, by rw [e68]; exact b2.2.1, by rw [e8]; exact b2.2.2.1, by rw [e70]; exact b2.2.2.2⟩
  have g27 : f_27 I2 = some (up (up (up I2 67 12 (nI 1)) 67 11 (nI 1)) 67 10 (nI 0)) := rfl
  have head : lb_32_6 (cc k) I W = if k = 7 ∨ k = 8 then lb_32_7 (up (up (up I2 67 12 (nI 1)) 67 11 (nI 1)) 67 10 (nI 0)) W else some (0, up (up (up (up I2 67 12 (nI 1)) 67 11 (nI 1)) 67 10 (nI 0)) 67 11 (nI 0)) := by
    rw [lb_32_6, g1, Option.bind_some, show f_38 (nI (prk k)) I = some I1 from a1, Option.bind_some, b1, Option.bind_some, g27, Option.bind_some]
    have c : ∀ k, k < 16 → 7 ≤ k → (cc k = (-8) ↔ k = 8) ∧ (cc k = (-7) ↔ k = 7) := by decide
    obtain ⟨c8, c7⟩ := c k h16 h7
    by_cases q8 : k = 8
    · rw [if_pos (c8.mpr q8), if_pos (Or.inr q8)]
    · rw [if_neg (fun z => q8 (c8.mp z))]
      by_cases q7 : k = 7
      · rw [if_pos (c7.mpr q7), if_pos (Or.inl q7)]
      · rw [if_neg (fun z => q7 (c7.mp z)), if_neg (fun z => z.elim q7 q8)]
        rfl
  rw [head]
  by_cases q : k = 7 ∨ k = 8
  · have pc : PC a0 (P ++ (fls (prk k) Ws).1.map cc) (k :: (fls (prk k) Ws).2) cmp 0 0 0 (up (up (up (up I2 67 12 (nI 1)) 67 11 (nI 1)) 67 10 (nI 0)) 67 12 (nI 0)) := by
      refine ⟨st _ ?_ ?_ ?_ ?_, ?_, fun d hd' => ?_, ?_, up_at, fun z => absurd z (by decide)⟩
      · rw [up_nk (by decide), up_nk (by decide), up_nk (by decide), up_nk (by decide)]
      · rw [up_nk (by decide), up_nk (by decide), up_nk (by decide), up_nk (by decide)]
      · rw [up_ne (by decide), up_ne (by decide), up_ne (by decide), up_ne (by decide)]
      · rw [up_ne (by decide), up_ne (by decide), up_ne (by decide), up_ne (by decide)]
      · rw [up_nk (by decide), up_nk (by decide), up_nk (by decide), up_nk (by decide), kp 9 (by decide) (by decide), dk]; exact h2
      · rw [up_ne (by decide), up_ne (by decide), up_ne (by decide), up_ne (by decide), e71]
        rw [dk] at hd'
        exact h3 d hd'
      · rw [up_nk (by decide), up_nk (by decide), up_nk (by decide), up_nk (by decide), kp 13 (by decide) (by decide)]; exact h4
    have n0 : ¬ nI (dpt Ws) < 0 := negN (by omega)
    have g41 : f_41 (0 : Int32) (up (up (up I2 67 12 (nI 1)) 67 11 (nI 1)) 67 10 (nI 0)) = some (up (up (up (up I2 67 12 (nI 1)) 67 11 (nI 1)) 67 10 (nI 0)) 71 (dpt Ws) (nI 0)) := by
      have e9 : (up (up (up I2 67 12 (nI 1)) 67 11 (nI 1)) 67 10 (nI 0)) 67 9 = nI (dpt Ws) := by
        rw [up_nk (by decide), up_nk (by decide), up_nk (by decide), kp 9 (by decide) (by decide)]; exact h2
      rw [f_41, e9, if_neg n0, if_pos ((ltN (by omega) (by decide)).mpr (by omega)), if_pos ((inN (by omega)).mpr (by omega)), clN (by omega)]
      rfl
    refine ⟨up (up (up (up I2 67 12 (nI 1)) 67 11 (nI 1)) 67 10 (nI 0)) 71 (dpt Ws) (nI 0), ?_, ⟨st _ ?_ ?_ ?_ ?_, ?_, fun d hd' => ?_, ?_, ?_, fun _ => ⟨?_, ?_⟩⟩, ((((u2.up (Or.inl rfl)).up (Or.inl rfl)).up (Or.inl rfl)).up (Or.inr rfl))⟩
    · rw [if_pos q, lb_32_7, g41]
      rfl
    · rw [up_ne (by decide), up_nk (by decide), up_nk (by decide), up_nk (by decide)]
    · rw [up_ne (by decide), up_nk (by decide), up_nk (by decide), up_nk (by decide)]
    · rw [up_ne (by decide), up_ne (by decide), up_ne (by decide), up_ne (by decide)]
    · rw [up_ne (by decide), up_ne (by decide), up_ne (by decide), up_ne (by decide)]
    · rw [up_ne (by decide), up_nk (by decide), up_nk (by decide), up_nk (by decide), kp 9 (by decide) (by decide), dk]; exact h2
    · rw [dk] at hd'
      dsimp only
      by_cases z : d = dpt Ws
      · rw [if_pos ⟨q, z⟩, z, up_at]
      · rw [if_neg (fun y => z y.2), up_nk z, up_ne (by decide), up_ne (by decide), up_ne (by decide), e71]
        exact h3 d hd'
    · rw [up_ne (by decide), up_nk (by decide), up_nk (by decide), up_nk (by decide), kp 13 (by decide) (by decide)]; exact h4
    · rw [up_ne (by decide), up_nk (by decide), up_nk (by decide), up_at]
    · rw [if_pos q, up_ne (by decide), up_nk (by decide), up_at]
    · rw [up_ne (by decide), up_at]
  · refine ⟨up (up (up (up I2 67 12 (nI 1)) 67 11 (nI 1)) 67 10 (nI 0)) 67 11 (nI 0), by rw [if_neg q], ⟨st _ ?_ ?_ ?_ ?_, ?_, fun d hd' => ?_, ?_, ?_, fun _ => ⟨?_, ?_⟩⟩, ((((u2.up (Or.inl rfl)).up (Or.inl rfl)).up (Or.inl rfl)).up (Or.inl rfl))⟩
    · rw [up_nk (by decide), up_nk (by decide), up_nk (by decide), up_nk (by decide)]
    · rw [up_nk (by decide), up_nk (by decide), up_nk (by decide), up_nk (by decide)]
    · rw [up_ne (by decide), up_ne (by decide), up_ne (by decide), up_ne (by decide)]
    · rw [up_ne (by decide), up_ne (by decide), up_ne (by decide), up_ne (by decide)]
    · rw [up_nk (by decide), up_nk (by decide), up_nk (by decide), up_nk (by decide), kp 9 (by decide) (by decide), dk]; exact h2
    · rw [dk] at hd'
      dsimp only
      rw [if_neg (fun y => q y.1), up_ne (by decide), up_ne (by decide), up_ne (by decide), up_ne (by decide), e71]
      exact h3 d hd'
    · rw [up_nk (by decide), up_nk (by decide), up_nk (by decide), up_nk (by decide), kp 13 (by decide) (by decide)]; exact h4
    · rw [up_nk (by decide), up_nk (by decide), up_nk (by decide), up_at]
    · rw [if_neg q, up_at]
    · rw [up_nk (by decide), up_at]
end OP
