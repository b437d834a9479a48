/-! the model's steps where a part is due -/
def PMd (b0 : Nat) (P : List Int32) (Ws : List Nat) (cmp : Nat → Nat) (I : Nat → Nat → Int32) : Prop := MSt b0 P Ws I ∧ I 97 31 = nI (dpt Ws + 1) ∧ (∀ d, d ≤ dpt Ws → I 109 (d + 1) = nI (cmp d)) ∧ I 97 12 = nI 0
/-- a fault stays, and its place -/
def Nf (I I' : Nat → Nat → Int32) : Prop := I' 97 12 = nI 0 → I 97 12 = nI 0 ∧ I' 97 13 = I 97 13
theorem Nf.refl (I : Nat → Nat → Int32) : Nf I I := fun h => ⟨h, rfl⟩
theorem Nf.trans {I I' I'' : Nat → Nat → Int32} (h : Nf I I') (h' : Nf I' I'') : Nf I I'' := fun z => by
  obtain ⟨a, b⟩ := h' z
  obtain ⟨c, e⟩ := h a
  exact ⟨c, b.trans e⟩
theorem Nf.of {I I' : Nat → Nat → Int32} (h12 : I' 97 12 = I 97 12) (h13 : I' 97 13 = I 97 13) : Nf I I' := fun z => ⟨by rw [← h12]; exact z, h13⟩
theorem Nf.flt {r : Nat} {I I' : Nat → Nat → Int32} (h : I' 97 12 = nI r) (h0 : 0 < r) (hr : r < 10) : Nf I I' := fun z => by
  rw [h] at z
  have := (eqN (b := 0) (by omega) (by decide)).mp z
  omega
/-- all but the rule under way stands -/
def Vm (y : Nat) (I I' : Nat → Nat → Int32) : Prop := Fr [97, 107, 108, 109] I I' ∧ (∀ k, k ∉ [12, 13, 16, 17, 18, 19, 20, 21, 29, 30, 31] → I' 97 k = I 97 k) ∧ (∀ x, x < y → I' 107 x = I 107 x) ∧ Nf I I'
theorem Vm.refl (y : Nat) (I : Nat → Nat → Int32) : Vm y I I := ⟨Fr.refl _ _, fun _ _ => rfl, fun _ _ => rfl, Nf.refl _⟩
theorem Vm.trans {y z : Nat} {I I' I'' : Nat → Nat → Int32} (h : Vm y I I') (h' : Vm z I' I'') (hz : y ≤ z) : Vm y I I'' := ⟨h.1.trans h'.1, fun k hk => (h'.2.1 k hk).trans (h.2.1 k hk), fun x hx => (h'.2.2.1 x (by omega)).trans (h.2.2.1 x hx), h.2.2.2.trans h'.2.2.2⟩
theorem Um.v {y : Nat} {I I' : Nat → Nat → Int32} (h : Um y I I') : Vm y I I' := ⟨h.1.mono (by decide), fun k hk => h.2.1 k (fun z => hk (by rw [z]; decide)) (fun z => hk (by rw [z]; decide)), h.2.2, Nf.of (h.2.1 12 (by decide) (by decide)) (h.2.1 13 (by decide) (by decide))⟩
theorem Uk.v {y : Nat} {ks : List Nat} {I I' : Nat → Nat → Int32} (h : Uk 97 ks I I') (hs : ∀ k, k ∈ ks → k ∈ [16, 17, 18, 19, 20, 21, 29, 30, 31]) : Vm y I I' := ⟨h.1.mono (by decide), fun k hk => h.2 k (fun z => hk (List.mem_cons_of_mem _ (List.mem_cons_of_mem _ (hs k z)))), fun x _ => by rw [h.1 107 (by decide)], Nf.of (h.2 12 (fun z => absurd (hs 12 z) (by decide))) (h.2 13 (fun z => absurd (hs 13 z) (by decide)))⟩
theorem Uk.vf {y r : Nat} {I I' : Nat → Nat → Int32} (h : Uk 97 [12, 13] I I') (h12 : I' 97 12 = nI r) (h0 : 0 < r) (hr : r < 10) : Vm y I I' := ⟨h.1.mono (by decide), fun k hk => h.2 k (fun z => hk (by revert z; simp; omega)), fun x _ => by rw [h.1 107 (by decide)], Nf.flt h12 h0 hr⟩
theorem TM.v {t : Nat → Nat} {E y : Nat} {I I' : Nat → Nat → Int32} (h : TM t E I) (u : Vm y I I') : TM t E I' := ⟨h.1, by rw [u.2.1 15 (by decide)]; exact h.2.1, fun i hi => by rw [u.1 102 (by decide)]; exact h.2.2 i hi⟩
section MD
variable {t : Nat → Nat} {E b0 : Nat} {P : List Int32} {Ws : List Nat} {cmp : Nat → Nat} {x4 s e kd v sg W : Nat} {I : Nat → Nat → Int32} {J : Nat → Nat → Int64}
theorem PMd.tok {I' : Nat → Nat → Int32} (h : PMd b0 P Ws cmp I) (u : Uk 97 [16, 17, 18, 19, 20, 21] I I') : PMd b0 P Ws cmp I' := by
  obtain ⟨⟨a1, a2, a3, a4⟩, h2, h3, h4⟩ := h
  refine ⟨⟨by rw [u.2 29 (by decide)]; exact a1, by rw [u.1 107 (by decide)]; exact a2, by rw [u.2 30 (by decide)]; exact a3, by rw [u.1 108 (by decide)]; exact a4⟩, by rw [u.2 31 (by decide)]; exact h2, fun d hd => by rw [u.1 109 (by decide)]; exact h3 d hd, by rw [u.2 12 (by decide)]; exact h4⟩
theorem f145_y (h : I 97 12 = nI 0) : f_145 I = some (nI 1) := by
  rw [f_145, h, if_pos (show nI 0 = 0 from rfl)]
  rfl
theorem f145_n {r : Nat} (h : I 97 12 = nI r) (h0 : 0 < r) (hr : r < 10) : f_145 I = some (nI 0) := by
  rw [f_145, h, if_neg (fun z => by have := (eqN (b := 0) (by omega) (by decide)).mp z; omega)]
  rfl
theorem f144_s {r : Nat} (h : I 97 12 = nI 0) (h18 : I 97 18 = nI s) : f_144 (nI r) I = some (up (up I 97 12 (nI r)) 97 13 (nI s)) := by
  rw [f_144, h, if_pos (show nI 0 = 0 from rfl)]
  dsimp only
  rw [up_nk (by decide), h18]
/-- a sign of the token -/
theorem f146_s {c : Nat} (h : MT s e kd v sg W I J) (hsg : sg < 256) (hc : ksg c) (hs : kd ≠ 3 → sg = 0) : f_146 (nI c) I = some (nI (if sg = c then 1 else 0)) := by
  obtain ⟨_, _, h17, _, _, h21, _, _, h3⟩ := h
  have c256 : c < 256 := by rcases hc with z | z | z | z | z | z | z | z | z <;> omega
  have c0 : c ≠ 0 := by rcases hc with z | z | z | z | z | z | z | z | z <;> omega
  by_cases q3 : kd = 3
  · by_cases qs : ksg sg
    · rw [if_neg (show ¬ (kd = 3 ∧ ¬ ksg sg) from fun z => z.2 qs), q3] at h17
      rw [f_146, h17, if_pos (show nI 3 = (3 : Int32) from rfl), h21 q3]
      by_cases q : sg = c
      · rw [if_pos (by rw [q]), if_pos q]
        rfl
      · rw [if_neg (fun z => q ((eqN (by omega) (by omega)).mp z)), if_neg q]
        rfl
    · have q : ¬ sg = c := fun z => qs (by rw [z]; exact hc)
      rw [if_pos (show kd = 3 ∧ ¬ ksg sg from ⟨q3, qs⟩)] at h17
      rw [f_146, h17, if_neg (show ¬ nI 4 = (3 : Int32) by decide), if_neg q]
      rfl
  · have q : ¬ sg = c := fun z => c0 (by rw [← z]; exact hs q3)
    have n : ¬ nI kd = (3 : Int32) := fun z => q3 ((eqN (b := 3) (by omega) (by decide)).mp z)
    rw [if_neg (show ¬ (kd = 3 ∧ ¬ ksg sg) from fun z => q3 z.1)] at h17
    rw [f_146, h17, if_neg n, if_neg q]
    rfl
/-- not, once more -/
theorem m156_n {s' e' kd' v' sg' W' m : Nat} (c1 : Int32 → Int32 → (Nat → Nat → Int32) → (Nat → Nat → Int64) → Option ((Nat → Nat → Int32) × (Nat → Nat → Int64))) (h : PMd b0 P Ws cmp I) (hT : TM t E I) (k : MT s e 1 v 0 16 I J) (hx : x4 < 6) (hl : Ws.length < 650) (he : e ≤ E) (kn : Tk t E e s' e' kd' v' sg' W') : ∃ I' J', fx (fun _ _ _ _ => none) (bd_156_2 c1) (m + 1) (nI 1) (nI x4) I J = fx (fun _ _ _ _ => none) (bd_156_2 c1) m (nI 1) (nI (x4 + 1)) I' J' ∧ PMd b0 P (9 :: Ws) cmp I' ∧ MT s' e' kd' v' sg' W' I' J' ∧ Vm (b0 + (encL P).length) I I' ∧ UJ J J' := by
  have h0 := h
  obtain ⟨h1, h2, h3, h4⟩ := h
  obtain ⟨I1, a1, a2, a3⟩ := f153_s (k := 9) h1 hl
  have g12 : I1 97 12 = nI 0 := by rw [a3.2.1 12 (by decide) (by decide)]; exact h4
  have p1 : PMd b0 P (9 :: Ws) cmp I1 := ⟨a2, by rw [a3.2.1 31 (by decide) (by decide)]; exact h2, fun d hd => by rw [a3.1 109 (by decide)]; exact h3 d hd, g12⟩
  obtain ⟨I2, J2, b1, b2, b3, b4⟩ := f140_s (J := J) (hT.v (Um.v a3)) (by rw [a3.2.1 16 (by decide) (by decide)]; exact k.1) he kn
  refine ⟨I2, J2, ?_, p1.tok b3, b2, (Um.v a3).trans (b3.v (by decide)) (Nat.le_refl _), b4⟩
  have one : nI x4 + (1 : Int32) = nI (x4 + 1) := addN _ 1
  have n6 : ¬ nI x4 = (6 : Int32) := fun z => by have := (eqN (b := 6) (by omega) (by decide)).mp z; omega
  rw [fx_s, bd_156_2, f145_y h4, Option.bind_some, if_neg (show ¬ nI 1 = 0 by decide), if_neg (show ¬ nI 1 = 0 by decide), f143_s k, Option.bind_some, if_pos (show mw 16 = (15 : Int32) from rfl), if_neg n6, lb_156_3, f145_y h4, Option.bind_some, if_neg (show ¬ nI 1 = 0 by decide), show f_153 (3 : Int32) I = some I1 from a1, Option.bind_some, b1, Option.bind_some, one]
end MD
