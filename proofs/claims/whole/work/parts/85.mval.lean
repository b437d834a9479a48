/-! the model writes a value -/
section MV
variable {t : Nat → Nat} {E b0 : Nat} {P : List Int32} {Ws : List Nat} {cmp : Nat → Nat} {s e kd v sg W s' e' kd' v' sg' W' : Nat} {I : Nat → Nat → Int32} {J : Nat → Nat → Int64}
theorem em2 {c x y : Int32} (h : PMd b0 P Ws cmp I) (hc : enc c = [x, y]) (hb : b0 + (encL P).length + 2 ≤ 1300) : ∃ I1 I2, f_149 x I = some I1 ∧ f_149 y I1 = some I2 ∧ PMd b0 (P ++ [c]) Ws cmp I2 ∧ (∀ k, k ≠ 29 → I1 97 k = I 97 k) ∧ (∀ k, k ≠ 29 → I2 97 k = I 97 k) ∧ Vm (b0 + (encL P).length) I I2 := by
  obtain ⟨⟨m1, m2, m3, m4⟩, h2, h3, h4⟩ := h
  obtain ⟨I1, a1, a2, a3, a4, a5, a6⟩ := f149_s (n := 0) x m1 m2 (by omega)
  obtain ⟨I2, b1, b2, b3, b4, b5, b6⟩ := f149_s (n := 0) y a2 a3 (by rw [List.length_append, List.length_singleton]; omega)
  have en : encL (P ++ [c]) = encL P ++ [x] ++ [y] := by
    rw [encL_app, encL, hc, encL, List.append_nil, List.append_assoc]
    rfl
  have kk : ∀ k, k ≠ 29 → I2 97 k = I 97 k := fun k hk => by rw [b5 k hk, a5 k hk]
  have fr : Fr [97, 107] I I2 := a4.trans b4
  refine ⟨I1, I2, a1, b1, ⟨⟨by rw [en]; exact b2, by rw [en]; exact b3, by rw [kk 30 (by decide)]; exact m3, by rw [fr 108 (by decide)]; exact m4⟩, by rw [kk 31 (by decide)]; exact h2, fun d hd => by rw [fr 109 (by decide)]; exact h3 d hd, by rw [kk 12 (by decide)]; exact h4⟩, a5, kk, fr.mono (by decide), fun k hk => kk k (fun z => hk (by rw [z]; decide)), fun x' hx => ?_, Nf.of (kk 12 (by decide)) (kk 13 (by decide))⟩
  rw [b6 x' (by rw [List.length_append]; omega), a6 x' hx]
/-- behind the value: the next token -/
theorem m154_7 (h : PMd b0 P Ws cmp I) (hT : TM t E I) (h16 : I 97 16 = nI e) (he : e ≤ E) (kn : Tk t E e s' e' kd' v' sg' W') : ∃ I' J', lb_154_7 I J = some (I', J') ∧ PMd b0 P Ws cmp I' ∧ MT s' e' kd' v' sg' W' I' J' ∧ Vm (b0 + (encL P).length) I I' ∧ UJ J J' := by
  obtain ⟨I2, J2, b1, b2, b3, b4⟩ := f140_s (J := J) hT h16 he kn
  refine ⟨I2, J2, ?_, h.tok b3, b2, b3.v (by decide), b4⟩
  rw [lb_154_7, f145_y h.2.2.2, Option.bind_some, if_neg (show ¬ nI 1 = 0 by decide), b1, Option.bind_some]
  rfl
theorem f154_v (h : PMd b0 P Ws cmp I) (hT : TM t E I) (k : MT s e 2 v 0 17 I J) (hl : e - s ≤ 4) (hv : v < 10000) (hb : b0 + (encL P).length + 2 ≤ 1300) (he : e ≤ E) (kn : Tk t E e s' e' kd' v' sg' W') : ∃ I' J', f_154 I J = some (I', J') ∧ PMd b0 (P ++ [nI v]) Ws cmp I' ∧ MT s' e' kd' v' sg' W' I' J' ∧ Vm (b0 + (encL P).length) I I' ∧ UJ J J' := by
  have n0 : ¬ nI v < 0 := negN (by omega)
  have en : enc (nI v) = [1, nI v] := by rw [enc, if_pos n0]
  obtain ⟨I1, I2, a1, a2, a3, a4, a5, a6⟩ := em2 h en hb
  obtain ⟨k16, k18, k17, k19, k20, _⟩ := k
  rw [if_neg (show ¬ (2 = 3 ∧ ¬ ksg 0) from fun z => absurd z.1 (by decide))] at k17
  obtain ⟨I3, J3, b1, b2, b3, b4, b5⟩ := m154_7 (J := J) a3 (hT.v a6) (by rw [a5 16 (by decide)]; exact k16) he kn
  refine ⟨I3, J3, ?_, b2, b3, a6.trans b4 (by rw [encL_app, List.length_append]; omega), b5⟩
  have l4 : ¬ (4 : Int32) < nI (e - s) := fun z => by have := (ltN (a := 4) (by decide) (by omega)).mp z; omega
  rw [f_154, f145_y h.2.2.2, Option.bind_some, if_neg (show ¬ nI 1 = 0 by decide), k17, if_pos (show nI 2 = (2 : Int32) from rfl), k19, if_neg l4, lb_154_2, a1, Option.bind_some, a4 20 (by decide), k20, a2, Option.bind_some]
  exact b1
theorem wcd_mw : ∀ W, W ≤ 17 → 1 ≤ W → wcd W ≠ 0 → enc (wcd W) = [2, mw W] ∧ ¬ mw W < 0 ∧ ¬ (5 : Int32) < mw W := by decide +kernel
theorem wcd_no : ∀ W, W ≤ 17 → 1 ≤ W → wcd W = 0 → mw W < 0 ∨ (5 : Int32) < mw W := by decide +kernel
theorem f154_w (h : PMd b0 P Ws cmp I) (hT : TM t E I) (k : MT s e 1 v 0 W I J) (hW : 1 ≤ W ∧ W ≤ 17) (hc : wcd W ≠ 0) (hb : b0 + (encL P).length + 2 ≤ 1300) (he : e ≤ E) (kn : Tk t E e s' e' kd' v' sg' W') : ∃ I' J', f_154 I J = some (I', J') ∧ PMd b0 (P ++ [wcd W]) Ws cmp I' ∧ MT s' e' kd' v' sg' W' I' J' ∧ Vm (b0 + (encL P).length) I I' ∧ UJ J J' := by
  obtain ⟨en, n1, n2⟩ := wcd_mw W hW.2 hW.1 hc
  obtain ⟨I1, I2, a1, a2, a3, a4, a5, a6⟩ := em2 h en hb
  have k0 := k
  obtain ⟨k16, k18, k17, k19, k20, _⟩ := k
  rw [if_neg (show ¬ (1 = 3 ∧ ¬ ksg 0) from fun z => absurd z.1 (by decide))] at k17
  obtain ⟨I3, J3, b1, b2, b3, b4, b5⟩ := m154_7 (J := J) a3 (hT.v a6) (by rw [a5 16 (by decide)]; exact k16) he kn
  refine ⟨I3, J3, ?_, b2, b3, a6.trans b4 (by rw [encL_app, List.length_append]; omega), b5⟩
  rw [f_154, f145_y h.2.2.2, Option.bind_some, if_neg (show ¬ nI 1 = 0 by decide), k17, if_neg (show ¬ nI 1 = (2 : Int32) by decide), if_pos (show nI 1 = (1 : Int32) from rfl), f143_s k0, Option.bind_some, if_neg n1, if_neg n2, lb_154_5, a1, Option.bind_some, a2, Option.bind_some]
  exact b1
end MV
