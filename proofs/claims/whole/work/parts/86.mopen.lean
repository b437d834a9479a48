/-! the model opens a bracket -/
section MO
variable {t : Nat → Nat} {E b0 : Nat} {P : List Int32} {Ws : List Nat} {cmp : Nat → Nat} {x2 x4 s e kd v sg W s' e' kd' v' sg' W' : Nat} {I : Nat → Nat → Int32} {J : Nat → Nat → Int64}
theorem f155_y {d : Nat} (h31 : I 97 31 = nI (d + 1)) (hd : d ≤ 4) : f_155 I = some (up (up I 97 31 (nI (d + 2))) 109 (d + 2) (nI 0)) := by
  have one : nI (d + 1) + (1 : Int32) = nI (d + 2) := addN _ 1
  have l6 : nI (d + 1) < (6 : Int32) := (ltN (b := 6) (by omega) (by decide)).mpr (by omega)
  have i9 : ex_in (nI (d + 2)) 9 := (inN (by omega)).mpr (by omega)
  have cl : (nI (d + 2)).toNatClampNeg = d + 2 := clN (by omega)
  have nb : vp_nar .boolean (0 : Int32) = nI 0 := rfl
  have e31 : (up I 97 31 (nI (d + 2))) 97 31 = nI (d + 2) := up_at
  rw [f_155, h31, if_pos l6, one]
  dsimp only
  rw [e31, if_pos i9, cl, nb]
theorem m156_p {m : Nat} (c1 : Int32 → Int32 → (Nat → Nat → Int32) → (Nat → Nat → Int64) → Option ((Nat → Nat → Int32) × (Nat → Nat → Int64))) (h : PMd b0 P Ws cmp I) (hT : TM t E I) (k : MT s e 3 v 40 17 I J) (hl : Ws.length < 650) (hd : dpt Ws ≤ 4) (he : e ≤ E) (kn : Tk t E e s' e' kd' v' sg' W') : ∃ I' J', fx (fun _ _ _ _ => none) (bd_156_2 c1) (m + 1) (nI x2) (nI x4) I J = c1 (1 : Int32) (1 : Int32) I' J' ∧ PMd b0 P (16 :: Ws) (fun d => if d = dpt Ws + 1 then 0 else cmp d) I' ∧ MT s' e' kd' v' sg' W' I' J' ∧ Vm (b0 + (encL P).length) I I' ∧ UJ J J' := by
  obtain ⟨h1, h2, h3, h4⟩ := h
  obtain ⟨I1, a1, a2, a3⟩ := f153_s (k := 16) h1 hl
  obtain ⟨I2, J2, b1, b2, b3, b4⟩ := f140_s (J := J) (hT.v (Um.v a3)) (by rw [a3.2.1 16 (by decide) (by decide)]; exact k.1) he kn
  have e31 : I2 97 31 = nI (dpt Ws + 1) := by rw [b3.2 31 (by decide), a3.2.1 31 (by decide) (by decide)]; exact h2
  have g155 := f155_y e31 hd
  obtain ⟨n1, n2, n3, n4⟩ := a2
  obtain ⟨q1, q2, q3, q4, q5, q6, q7, q8, q9⟩ := b2
  refine ⟨up (up I2 97 31 (nI (dpt Ws + 2))) 109 (dpt Ws + 2) (nI 0), J2, ?_, ⟨⟨?_, ?_, ?_, ?_⟩, ?_, fun d hd' => ?_, ?_⟩, ⟨?_, ?_, ?_, ?_, ?_, fun z => ?_, q7, q8, q9⟩, ?_, b4⟩
  · have s40 : f_146 (40 : Int32) I = some (nI (if 40 = 40 then 1 else 0)) := f146_s (c := 40) k (by decide) (by decide) (fun z => absurd rfl z)
    have tl : lb_156_5 c1 (nI x2) I J = c1 (1 : Int32) (1 : Int32) (up (up I2 97 31 (nI (dpt Ws + 2))) 109 (dpt Ws + 2) (nI 0)) J2 := by
      rw [lb_156_5, f145_y h4, Option.bind_some, if_neg (show ¬ nI 1 = 0 by decide), s40, Option.bind_some, if_neg (show ¬ nI (if 40 = 40 then 1 else 0) = 0 by decide), lb_156_7, if_neg (show ¬ (1 : Int32) = 0 by decide), show f_153 (14 : Int32) I = some I1 from a1, Option.bind_some, b1, Option.bind_some]
      dsimp only
      rw [g155, Option.bind_some]
      rfl
    rw [fx_s, bd_156_2, f145_y h4, Option.bind_some, if_neg (show ¬ nI 1 = 0 by decide), f143_s k, Option.bind_some, if_neg (show ¬ mw 17 = (15 : Int32) by decide), tl, ite_self]
  · rw [up_ne (by decide), up_nk (by decide), b3.2 29 (by decide)]; exact n1
  · rw [up_ne (by decide), up_ne (by decide), b3.1 107 (by decide)]; exact n2
  · rw [up_ne (by decide), up_nk (by decide), b3.2 30 (by decide)]; exact n3
  · rw [up_ne (by decide), up_ne (by decide), b3.1 108 (by decide)]; exact n4
  · rw [up_ne (by decide), up_at]; rfl
  · dsimp only
    have dp : dpt (16 :: Ws) = dpt Ws + 1 := rfl
    by_cases z : d = dpt Ws + 1
    · rw [if_pos z, z, up_at]
    · rw [if_neg z, up_nk (by omega), up_ne (by decide), b3.1 109 (by decide), a3.1 109 (by decide)]
      exact h3 d (by omega)
  · rw [up_ne (by decide), up_nk (by decide), b3.2 12 (by decide), a3.2.1 12 (by decide) (by decide)]; exact h4
  · rw [up_ne (by decide), up_nk (by decide)]; exact q1
  · rw [up_ne (by decide), up_nk (by decide)]; exact q2
  · rw [up_ne (by decide), up_nk (by decide)]; exact q3
  · rw [up_ne (by decide), up_nk (by decide)]; exact q4
  · rw [up_ne (by decide), up_nk (by decide)]; exact q5
  · rw [up_ne (by decide), up_nk (by decide)]; exact q6 z
  · have u1 : Vm (b0 + (encL P).length) I I2 := (Um.v a3).trans (b3.v (by decide)) (Nat.le_refl _)
    refine ⟨(u1.1.up (by decide)).up (by decide), fun k hk => ?_, fun x hx => ?_, u1.2.2.2.trans (Nf.of (by rw [up_ne (by decide), up_nk (by decide)]) (by rw [up_ne (by decide), up_nk (by decide)]))⟩
    · rw [up_ne (by decide), up_nk (show k ≠ 31 from fun z => hk (by rw [z]; decide))]; exact u1.2.1 k hk
    · rw [up_ne (by decide), up_ne (by decide)]; exact u1.2.2.1 x hx
end MO
