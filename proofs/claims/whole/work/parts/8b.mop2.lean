/-! the model's joining, by the token -/
def cmq (k D : Nat) (cmp : Nat → Nat) (d : Nat) : Nat := if d = D then (if k = 7 ∨ k = 8 then 0 else if k = 10 ∨ k = 11 then 1 else cmp d) else cmp d
section MQ
variable {t : Nat → Nat} {E b0 : Nat} {P : List Int32} {Ws : List Nat} {cmp : Nat → Nat} {s e kd v sg W s' e' kd' v' sg' W' : Nat} {I : Nat → Nat → Int32} {J : Nat → Nat → Int64}
/-- what a joining comes to -/
def Joi (t : Nat → Nat) (E b0 : Nat) (P : List Int32) (Ws : List Nat) (cmp : Nat → Nat) (k s' e' kd' v' sg' W' : Nat) (I : Nat → Nat → Int32) (J : Nat → Nat → Int64) (c2 : Int32 → (Nat → Nat → Int32) → (Nat → Nat → Int64) → Option ((Nat → Nat → Int32) × (Nat → Nat → Int64))) (X : Option ((Nat → Nat → Int32) × (Nat → Nat → Int64))) : Prop := ∃ I' J', X = ((f_156 (if k = 7 ∨ k = 8 then (1 : Int32) else (0 : Int32)) I' J').bind fun q => c2 (1 : Int32) q.1 q.2) ∧ PMd b0 (P ++ (fls (prk k) Ws).1.map cc) (k :: (fls (prk k) Ws).2) (cmq k (dpt Ws) cmp) I' ∧ MT s' e' kd' v' sg' W' I' J' ∧ Vm (b0 + (encL P).length) I I' ∧ UJ J J'
theorem dpt_join {k : Nat} (h7 : 7 ≤ k) (h16 : k < 16) : dpt (k :: (fls (prk k) Ws).2) = dpt Ws := by
  obtain ⟨_, _, _, _, _, c6⟩ := ccs k (by omega) h7
  obtain ⟨_, p0⟩ := c6 (by omega)
  rw [dpt, if_neg (by omega), (fls_dpt p0 Ws).1]
  rfl
/-- with a test set -/
theorem joi_t {k b : Nat} {c2 : Int32 → (Nat → Nat → Int32) → (Nat → Nat → Int64) → Option ((Nat → Nat → Int32) × (Nat → Nat → Int64))} (h : PMd b0 P Ws cmp I) (hT : TM t E I) (h16 : I 97 16 = nI e) (hw : wf Ws) (hd : dpt Ws ≤ 5) (hb : b0 + (encL P).length + Ws.length ≤ 1300) (he : e ≤ E) (kn : Tk t E e s' e' kd' v' sg' W') (h7 : 7 ≤ k) (hk16 : k < 16) (hbb : (k = 7 ∨ k = 8) ∧ b = 0 ∨ (k = 10 ∨ k = 11) ∧ b = 1) : ∃ I1 I2 I3 J3, f_152 (nI (prk k)) I = some I1 ∧ f_153 (nI (mkk k)) I1 = some I2 ∧ (∀ x, x ≠ 29 → x ≠ 30 → I1 97 x = I 97 x) ∧ I2 97 31 = nI (dpt Ws + 1) ∧ f_140 (up I2 109 (dpt Ws + 1) (nI b)) J = some (I3, J3) ∧ PMd b0 (P ++ (fls (prk k) Ws).1.map cc) (k :: (fls (prk k) Ws).2) (cmq k (dpt Ws) cmp) I3 ∧ MT s' e' kd' v' sg' W' I3 J3 ∧ Vm (b0 + (encL P).length) I I3 ∧ UJ J J3 := by
  obtain ⟨I1, I2, a1, a2, a3, a4, a5, a6⟩ := mjoin h hw hd h7 hk16 hb
  have dj := dpt_join (Ws := Ws) h7 hk16
  have p2 := a3.test (b := b)
  rw [dj] at p2
  have ec : (fun d => if d = dpt Ws then b else cmp d) = cmq k (dpt Ws) cmp := by
    funext d
    unfold cmq
    by_cases z : d = dpt Ws
    · rw [if_pos z, if_pos z]
      rcases hbb with ⟨q, r⟩ | ⟨q, r⟩
      · rw [if_pos q, r]
      · rw [if_neg (by omega), if_pos q, r]
    · rw [if_neg z, if_neg z]
  rw [ec] at p2
  have u2 : Vm (b0 + (encL P).length) I (up I2 109 (dpt Ws + 1) (nI b)) := ⟨a6.1.up (by decide), fun x hx => by rw [up_ne (by decide)]; exact a6.2.1 x hx, fun x hx => by rw [up_ne (by decide)]; exact a6.2.2.1 x hx, a6.2.2.2.trans (Nf.of (by rw [up_ne (by decide)]) (by rw [up_ne (by decide)]))⟩
  obtain ⟨I3, J3, b1, b2, b3, b4, b5⟩ := p2.next (J := J) (hT.v u2) (by rw [up_ne (by decide), a5 16 (by decide) (by decide)]; exact h16) he kn
  exact ⟨I1, I2, I3, J3, a1, a2, a4, by rw [a5 31 (by decide) (by decide)]; exact h.2.1, b1, b2, b3, u2.trans b4 (by rw [encL_app, List.length_append]; omega), b5⟩
/-- with none -/
theorem joi_n {k : Nat} (h : PMd b0 P Ws cmp I) (hT : TM t E I) (h16 : I 97 16 = nI e) (hw : wf Ws) (hd : dpt Ws ≤ 5) (hb : b0 + (encL P).length + Ws.length ≤ 1300) (he : e ≤ E) (kn : Tk t E e s' e' kd' v' sg' W') (h12 : 12 ≤ k) (hk16 : k < 16) : ∃ I1 I2 I3 J3, f_152 (nI (prk k)) I = some I1 ∧ f_153 (nI (mkk k)) I1 = some I2 ∧ (∀ x, x ≠ 29 → x ≠ 30 → I1 97 x = I 97 x) ∧ f_140 I2 J = some (I3, J3) ∧ PMd b0 (P ++ (fls (prk k) Ws).1.map cc) (k :: (fls (prk k) Ws).2) (cmq k (dpt Ws) cmp) I3 ∧ MT s' e' kd' v' sg' W' I3 J3 ∧ Vm (b0 + (encL P).length) I I3 ∧ UJ J J3 := by
  obtain ⟨I1, I2, a1, a2, a3, a4, a5, a6⟩ := mjoin h hw hd (show 7 ≤ k by omega) hk16 hb
  have ec : cmp = cmq k (dpt Ws) cmp := by
    funext d
    unfold cmq
    rw [if_neg (show ¬ (k = 7 ∨ k = 8) by omega), if_neg (show ¬ (k = 10 ∨ k = 11) by omega), ite_self]
  obtain ⟨I3, J3, b1, b2, b3, b4, b5⟩ := a3.next (J := J) (hT.v a6) (by rw [a5 16 (by decide) (by decide)]; exact h16) he kn
  rw [ec] at b2
  exact ⟨I1, I2, I3, J3, a1, a2, a4, b1, b2, b3, a6.trans b4 (by rw [encL_app, List.length_append]; omega), b5⟩
theorem MT.f146 {I1 : Nat → Nat → Int32} {c : Nat} (k : MT s e kd v sg W I J) (hsg : sg < 256) (hc : ksg c) (hs : kd ≠ 3 → sg = 0) (hI : ∀ x, x ≠ 29 → x ≠ 30 → I1 97 x = I 97 x) : f_146 (nI c) I1 = some (nI (if sg = c then 1 else 0)) := by
  rw [← f146_s k hsg hc hs, f_146, f_146, hI 17 (by decide) (by decide), hI 21 (by decide) (by decide)]
  rfl
theorem m159_op {k : Nat} (c2 : Int32 → (Nat → Nat → Int32) → (Nat → Nat → Int64) → Option ((Nat → Nat → Int32) × (Nat → Nat → Int64))) (h : PMd b0 P Ws cmp I) (hT : TM t E I) (hk : MT s e kd v sg W I J) (tk : Tok E s e kd v sg W) (hw : wf Ws) (hd : dpt Ws ≤ 5) (hb : b0 + (encL P).length + Ws.length ≤ 1300) (kn : Tk t E e s' e' kd' v' sg' W') (ek : opk W sg = k) (k0 : k ≠ 0) (hc : k = 10 ∨ k = 11 → cmp (dpt Ws) = 0) : Joi t E b0 P Ws cmp k s' e' kd' v' sg' W' I J c2 (bd_159_2 c2 (1 : Int32) I J) := by
  obtain ⟨_, he, _, hsg, _, ⟨w1, w2⟩, _, hw17, hs⟩ := id tk
  have h16 := hk.1
  have c31 : (nI (dpt Ws + 1)).toNatClampNeg = dpt Ws + 1 := clN (by omega)
  have i31 : ex_in (nI (dpt Ws + 1)) 9 := (inN (by omega)).mpr (by omega)
  rw [m159_h c2 h.2.2.2 hk tk]
  unfold opk at ek
  by_cases q14 : W = 14
  · rw [if_pos q14] at ek
    subst ek
    obtain ⟨I1, I2, I3, J3, a1, a2, a3, a4, a5, a6, a7, a8, a9⟩ := joi_t (k := 7) (b := 0) (J := J) (c2 := c2) h hT h16 hw hd hb he kn (by decide) (by decide) (Or.inl ⟨Or.inl rfl, rfl⟩)
    refine ⟨I3, J3, ?_, a6, a7, a8, a9⟩
    rw [if_neg (show ¬ W = 15 by omega), if_pos q14, lb_159_3, if_neg (by decide), lb_159_5, show f_152 (1 : Int32) I = some I1 from a1, Option.bind_some, if_neg (by decide), lb_159_7, show f_153 (5 : Int32) I1 = some I2 from a2, Option.bind_some]
    simp only [a4, if_pos i31, c31, show vp_nar .boolean (0 : Int32) = nI 0 from rfl, a5, Option.bind_some]
    rfl
  · rw [if_neg q14] at ek
    rw [if_neg q14]
    by_cases q15 : W = 15
    · rw [if_pos q15] at ek
      subst ek
      obtain ⟨I1, I2, I3, J3, a1, a2, a3, a4, a5, a6, a7, a8, a9⟩ := joi_t (k := 8) (b := 0) (J := J) (c2 := c2) h hT h16 hw hd hb he kn (by decide) (by decide) (Or.inl ⟨Or.inr rfl, rfl⟩)
      refine ⟨I3, J3, ?_, a6, a7, a8, a9⟩
      rw [if_pos q15, lb_159_3, if_pos rfl, lb_159_5, show f_152 (2 : Int32) I = some I1 from a1, Option.bind_some, if_pos rfl, lb_159_7, show f_153 (4 : Int32) I1 = some I2 from a2, Option.bind_some]
      simp only [a4, if_pos i31, c31, show vp_nar .boolean (0 : Int32) = nI 0 from rfl, a5, Option.bind_some]
      rfl
    · rw [if_neg q15] at ek
      rw [if_neg q15]
      have at0 : cmp (dpt Ws) = 0 → I 109 (nI (dpt Ws + 1)).toNatClampNeg = 0 := fun z => by
        rw [c31, h.2.2.1 _ (Nat.le_refl _), z]
        rfl
      by_cases q60 : sg = 60
      · rw [if_pos q60] at ek
        subst ek
        obtain ⟨I1, I2, I3, J3, a1, a2, a3, a4, a5, a6, a7, a8, a9⟩ := joi_t (k := 10) (b := 1) (J := J) (c2 := c2) h hT h16 hw hd hb he kn (by decide) (by decide) (Or.inr ⟨Or.inl rfl, rfl⟩)
        refine ⟨I3, J3, ?_, a6, a7, a8, a9⟩
        have g : f_146 (60 : Int32) I1 = some (nI (if sg = 60 then 1 else 0)) := hk.f146 (c := 60) hsg (by decide) hs a3
        rw [if_pos q60, lb_159_9, h.2.1, if_pos i31, if_pos (at0 (hc (Or.inl rfl))), show f_152 (4 : Int32) I = some I1 from a1, Option.bind_some, g, Option.bind_some, b01, if_pos q60, lb_159_11, show f_153 (6 : Int32) I1 = some I2 from a2, Option.bind_some]
        simp only [a4, if_pos i31, c31, show vp_nar .boolean (1 : Int32) = nI 1 from rfl, a5, Option.bind_some]
        rfl
      · rw [if_neg q60] at ek
        rw [if_neg q60]
        by_cases q61 : sg = 61
        · rw [if_pos q61] at ek
          subst ek
          obtain ⟨I1, I2, I3, J3, a1, a2, a3, a4, a5, a6, a7, a8, a9⟩ := joi_t (k := 11) (b := 1) (J := J) (c2 := c2) h hT h16 hw hd hb he kn (by decide) (by decide) (Or.inr ⟨Or.inr rfl, rfl⟩)
          refine ⟨I3, J3, ?_, a6, a7, a8, a9⟩
          have g : f_146 (60 : Int32) I1 = some (nI (if sg = 60 then 1 else 0)) := hk.f146 (c := 60) hsg (by decide) hs a3
          rw [if_pos q61, lb_159_9, h.2.1, if_pos i31, if_pos (at0 (hc (Or.inr rfl))), show f_152 (4 : Int32) I = some I1 from a1, Option.bind_some, g, Option.bind_some, b01, if_neg q60, lb_159_11, show f_153 (7 : Int32) I1 = some I2 from a2, Option.bind_some]
          simp only [a4, if_pos i31, c31, show vp_nar .boolean (1 : Int32) = nI 1 from rfl, a5, Option.bind_some]
          rfl
        · rw [if_neg q61] at ek
          rw [if_neg q61, m159_12h c2 hk tk]
          by_cases q43 : sg = 43
          · rw [if_pos q43] at ek
            subst ek
            obtain ⟨I1, I2, I3, J3, a1, a2, a3, a5, a6, a7, a8, a9⟩ := joi_n (k := 12) (J := J) h hT h16 hw hd hb he kn (by decide) (by decide)
            refine ⟨I3, J3, ?_, a6, a7, a8, a9⟩
            have g : f_146 (43 : Int32) I1 = some (nI (if sg = 43 then 1 else 0)) := hk.f146 (c := 43) hsg (by decide) hs a3
            rw [if_pos q43, lb_159_13, show f_152 (5 : Int32) I = some I1 from a1, Option.bind_some, g, Option.bind_some, b01, if_pos q43, lb_159_15, show f_153 (8 : Int32) I1 = some I2 from a2, Option.bind_some, a5, Option.bind_some]
            rfl
          · rw [if_neg q43] at ek
            rw [if_neg q43]
            by_cases q45 : sg = 45
            · rw [if_pos q45] at ek
              subst ek
              obtain ⟨I1, I2, I3, J3, a1, a2, a3, a5, a6, a7, a8, a9⟩ := joi_n (k := 13) (J := J) h hT h16 hw hd hb he kn (by decide) (by decide)
              refine ⟨I3, J3, ?_, a6, a7, a8, a9⟩
              have g : f_146 (43 : Int32) I1 = some (nI (if sg = 43 then 1 else 0)) := hk.f146 (c := 43) hsg (by decide) hs a3
              rw [if_pos q45, lb_159_13, show f_152 (5 : Int32) I = some I1 from a1, Option.bind_some, g, Option.bind_some, b01, if_neg q43, lb_159_15, show f_153 (9 : Int32) I1 = some I2 from a2, Option.bind_some, a5, Option.bind_some]
              rfl
            · rw [if_neg q45] at ek
              rw [if_neg q45]
              by_cases q42 : sg = 42
              · rw [if_pos q42] at ek
                subst ek
                obtain ⟨I1, I2, I3, J3, a1, a2, a3, a5, a6, a7, a8, a9⟩ := joi_n (k := 14) (J := J) h hT h16 hw hd hb he kn (by decide) (by decide)
                refine ⟨I3, J3, ?_, a6, a7, a8, a9⟩
                have g : f_146 (42 : Int32) I1 = some (nI (if sg = 42 then 1 else 0)) := hk.f146 (c := 42) hsg (by decide) hs a3
                rw [if_pos q42, lb_159_17, show f_152 (6 : Int32) I = some I1 from a1, Option.bind_some, g, Option.bind_some, b01, if_pos q42, lb_159_19, show f_153 (10 : Int32) I1 = some I2 from a2, Option.bind_some, a5, Option.bind_some]
                rfl
              · rw [if_neg q42] at ek
                rw [if_neg q42]
                by_cases q47 : sg = 47
                · rw [if_pos q47] at ek
                  subst ek
                  obtain ⟨I1, I2, I3, J3, a1, a2, a3, a5, a6, a7, a8, a9⟩ := joi_n (k := 15) (J := J) h hT h16 hw hd hb he kn (by decide) (by decide)
                  refine ⟨I3, J3, ?_, a6, a7, a8, a9⟩
                  have g : f_146 (42 : Int32) I1 = some (nI (if sg = 42 then 1 else 0)) := hk.f146 (c := 42) hsg (by decide) hs a3
                  rw [if_pos q47, lb_159_17, show f_152 (6 : Int32) I = some I1 from a1, Option.bind_some, g, Option.bind_some, b01, if_neg q42, lb_159_19, show f_153 (11 : Int32) I1 = some I2 from a2, Option.bind_some, a5, Option.bind_some]
                  rfl
                · rw [if_neg q47] at ek
                  exact absurd ek.symm k0
end MQ
