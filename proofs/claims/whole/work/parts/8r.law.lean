/-! the law's loop -/
theorem lgs (x : Int64) : lg_cmp x x = 0 := by
  unfold lg_cmp
  rw [if_neg (Int64.lt_irrefl), if_pos rfl]
theorem ex01 : ex_in (0 : Int32) 1 := ⟨by decide, by decide⟩
def JJ (q : Int32 ⊕ Nat) (J : Nat → Nat → Int64) : Nat → Nat → Int64 := match q with
  | .inl v => up J 133 0 v.toInt64
  | .inr _ => J
def JL (q : Int64 ⊕ Nat) (J : Nat → Nat → Int64) : Nat → Nat → Int64 := match q with
  | .inl v => up J 133 0 v
  | .inr _ => J
section MT2
variable {R : Type} {q : Int32 ⊕ Nat} {b t : Int32} {J : Nat → Nat → Int64}
theorem mtN (g : Int32 → (Nat → Nat → Int64) → Option R) (h : OKq cdN q b t) : mt2 q (fun v => (if ex_in (0 : Int32) 1 then (let J2 := up J 133 ((0 : Int32)).toNatClampNeg (v).toInt64
  g (0 : Int32) J2) else none)) (fun e => (if e = 1 then g (1 : Int32) J else none)) = g t (JJ q J) := by
  cases q with
  | inl v =>
    obtain ⟨h1, h2⟩ := h
    rw [h1]
    show (if ex_in (0 : Int32) 1 then g (0 : Int32) (up J 133 0 v.toInt64) else none) = _
    rw [if_pos ex01]
    rfl
  | inr e =>
    obtain ⟨h1, h2, _⟩ := h
    have e1 : e = 1 := by
      by_cases z : e = 1
      · exact z
      · unfold cdN at h2
        rw [if_neg z] at h2
        omega
    subst e1
    rw [h1]
    rfl
theorem mtI (g : Int32 → (Nat → Nat → Int64) → Option R) (h : OKq cdI q b t) : mt2 q (fun v => (if ex_in (0 : Int32) 1 then (let J2 := up J 133 ((0 : Int32)).toNatClampNeg (v).toInt64
  g (0 : Int32) J2) else none)) (fun e => (if e = 0 then g (1 : Int32) J else none)) = g t (JJ q J) := by
  cases q with
  | inl v =>
    obtain ⟨h1, h2⟩ := h
    rw [h1]
    show (if ex_in (0 : Int32) 1 then g (0 : Int32) (up J 133 0 v.toInt64) else none) = _
    rw [if_pos ex01]
    rfl
  | inr e =>
    obtain ⟨h1, h2, _⟩ := h
    have e1 : e = 0 := by
      by_cases z : e = 0
      · exact z
      · unfold cdI at h2
        rw [if_neg z] at h2
        omega
    subst e1
    rw [h1]
    rfl
theorem mtB (g : Int32 → (Nat → Nat → Int64) → Option R) (h : OKq cdB q b t) : mt2 q (fun v => (if ex_in (0 : Int32) 1 then (let J2 := up J 133 ((0 : Int32)).toNatClampNeg (v).toInt64
  g (0 : Int32) J2) else none)) (fun e => (if e = 1 then g (1 : Int32) J else (if e = 0 then g (2 : Int32) J else none))) = g t (JJ q J) := by
  cases q with
  | inl v =>
    obtain ⟨h1, h2⟩ := h
    rw [h1]
    show (if ex_in (0 : Int32) 1 then g (0 : Int32) (up J 133 0 v.toInt64) else none) = _
    rw [if_pos ex01]
    rfl
  | inr e =>
    obtain ⟨h1, h2, _⟩ := h
    have e1 : e = 1 ∨ e = 0 := by
      by_cases z : e = 1
      · exact Or.inl z
      · by_cases y : e = 0
        · exact Or.inr y
        · unfold cdB at h2
          rw [if_neg z, if_neg y] at h2
          omega
    rcases e1 with rfl | rfl
    · rw [h1]
      rfl
    · rw [h1]
      rfl
theorem law_if {cd : Nat → Nat} {α : Type} {X Y : Option α} {b' : Int64} (hb : b' = b.toInt64) {J' : Nat → Nat → Int64} (hJ : J' 133 0 = JJ q J 133 0) (h : OKq cd q b t) : (if t = 0 then (if ex_in (0 : Int32) 1 then (if lg_cmp (J' 133 ((0 : Int32)).toNatClampNeg) b' = 0 then X else Y) else none) else X) = X := by
  rw [if_pos ex01]
  by_cases z : t = 0
  · rw [if_pos z]
    cases q with
    | inl v =>
      obtain ⟨h1, h2⟩ := h
      have e : J' 133 ((0 : Int32)).toNatClampNeg = b.toInt64 := by
        show J' 133 0 = _
        rw [hJ, ← h2]
        exact up_at
      rw [e, hb, lgs, if_pos rfl]
    | inr e =>
      obtain ⟨h1, h2, h3⟩ := h
      rw [h1] at z
      have := (eqN (b := 0) (by omega) (by decide)).mp z
      omega
  · rw [if_neg z]
end MT2
section LW
variable {Z I : Nat → Nat → Int32} {J : Nat → Nat → Int64} {W : Nat} {C : Nat × Nat} {i nS : Nat}
/-- a call's end -/
def Lw (Z : Nat → Nat → Int32) (c1 : Int32 → Nat → (Nat → Nat → Int32) → (Nat → Nat → Int64) → Nat → (Nat × Nat) → Option (Int32 × (Nat → Nat → Int32) × (Nat → Nat → Int64) × Nat × (Nat × Nat))) (i nS : Nat) (C : Nat × Nat) (X : Option (Int32 × (Nat → Nat → Int32) × (Nat → Nat → Int64) × Nat × (Nat × Nat))) : Prop := ∃ I' J' W' t, X = c1 (nI (i + 6)) nS I' J' W' (xk C t) ∧ Inv Z I'
theorem lw_2 (c1 : Int32 → Nat → (Nat → Nat → Int32) → (Nat → Nat → Int64) → Nat → (Nat × Nat) → Option (Int32 × (Nat → Nat → Int32) × (Nat → Nat → Int64) × Nat × (Nat × Nat))) (hi : i + 6 ≤ nS) (hn : nS ≤ 3072) (zp : ZP Z) (h : Inv Z I) : Lw Z c1 i nS C (lb_239_2 c1 (nI i) nS I J W C) := by
  have p1 : nI i + (1 : Int32) = nI (i + 1) := addN i 1
  have n1 : ex_in (nI (i + 1)) nS := (inN (by omega)).mpr (by omega)
  have v1 : (nI (i + 1)).toNatClampNeg = i + 1 := clN (by omega)
  have p2 : nI i + (2 : Int32) = nI (i + 2) := addN i 2
  have n2 : ex_in (nI (i + 2)) nS := (inN (by omega)).mpr (by omega)
  have v2 : (nI (i + 2)).toNatClampNeg = i + 2 := clN (by omega)
  have p3 : nI i + (3 : Int32) = nI (i + 3) := addN i 3
  have n3 : ex_in (nI (i + 3)) nS := (inN (by omega)).mpr (by omega)
  have v3 : (nI (i + 3)).toNatClampNeg = i + 3 := clN (by omega)
  have p4 : nI i + (4 : Int32) = nI (i + 4) := addN i 4
  have n4 : ex_in (nI (i + 4)) nS := (inN (by omega)).mpr (by omega)
  have v4 : (nI (i + 4)).toNatClampNeg = i + 4 := clN (by omega)
  have p5 : nI i + (5 : Int32) = nI (i + 5) := addN i 5
  have n5 : ex_in (nI (i + 5)) nS := (inN (by omega)).mpr (by omega)
  have v5 : (nI (i + 5)).toNatClampNeg = i + 5 := clN (by omega)
  have p6 : nI i + (6 : Int32) = nI (i + 6) := addN i 6
  obtain ⟨a, I1, I2, a1, a2, z0, a3, a4⟩ := feed_i h (I 0 (i + 1)) (I 0 (i + 2)) (I 0 (i + 3)) (I 0 (i + 4)) (I 0 (i + 5))
  refine ⟨I2, J, W, 0, ?_, a3⟩
  simp only [lb_239_2, p1, if_pos n1, v1, p2, if_pos n2, v2, p3, if_pos n3, v3, p4, if_pos n4, v4, p5, if_pos n5, v5, a1, Option.bind_some, z0, a2, if_true]
  rw [lb_239_66, p6]
  rfl
theorem lw_3 (c1 : Int32 → Nat → (Nat → Nat → Int32) → (Nat → Nat → Int64) → Nat → (Nat × Nat) → Option (Int32 × (Nat → Nat → Int32) × (Nat → Nat → Int64) × Nat × (Nat × Nat))) (hi : i + 6 ≤ nS) (hn : nS ≤ 3072) (zp : ZP Z) (h : Inv Z I) : Lw Z c1 i nS C (lb_239_3 c1 (nI i) nS I J W C) := by
  have p1 : nI i + (1 : Int32) = nI (i + 1) := addN i 1
  have n1 : ex_in (nI (i + 1)) nS := (inN (by omega)).mpr (by omega)
  have v1 : (nI (i + 1)).toNatClampNeg = i + 1 := clN (by omega)
  have p6 : nI i + (6 : Int32) = nI (i + 6) := addN i 6
  obtain ⟨q, I1, W1, b, I2, J2, a1, a2, z0, a3, a4, a5⟩ := trick_s zp h (I 0 (i + 1)) W J
  obtain ⟨q', I1', W1', b', I2', J2', b1, b2, y0, b3, b4, b5⟩ := trick_s zp h (I 0 (i + 1)) W (JJ q J)
  have e0 := Option.some.inj (a1.symm.trans b1)
  obtain ⟨rfl, e00⟩ := Prod.mk.inj e0
  obtain ⟨rfl, rfl⟩ := Prod.mk.inj e00
  have et : I2 97 0 = I2' 97 0 := by
    cases q with
    | inl v => rw [a4.1, b4.1]
    | inr x => rw [a4.1, b4.1]
  have e : f_222 (I 0 (i + 1)) I J W = some (I2' 97 0, I1, JJ q J, W1) := by
    rw [f_222, a1, Option.bind_some]
    exact mtI (fun k J => some (k, I1, J, W1)) b4
  refine ⟨I2', J2', W1, I2' 97 0, ?_, b3⟩
  simp only [lb_239_3, p1, if_pos n1, v1, e, Option.bind_some, z0, b2, f_131, if_true]
  refine (law_if rfl (b5 133 0 (by decide)) b4).trans ?_
  rw [lb_239_5, lb_239_66, p6]
theorem lw_6 (c1 : Int32 → Nat → (Nat → Nat → Int32) → (Nat → Nat → Int64) → Nat → (Nat × Nat) → Option (Int32 × (Nat → Nat → Int32) × (Nat → Nat → Int64) × Nat × (Nat × Nat))) (hi : i + 6 ≤ nS) (hn : nS ≤ 3072) (zp : ZP Z) (h : Inv Z I) : Lw Z c1 i nS C (lb_239_6 c1 (nI i) nS I J W C) := by
  have p6 : nI i + (6 : Int32) = nI (i + 6) := addN i 6
  obtain ⟨q, I2, a1, a2, a3⟩ := fault_s h
  refine ⟨I2, J, W, 0, ?_, h.keep a3⟩
  simp only [lb_239_6, a1, Option.bind_some, a2, if_true]
  rw [lb_239_66, p6]
  rfl
theorem lw_7 (c1 : Int32 → Nat → (Nat → Nat → Int32) → (Nat → Nat → Int64) → Nat → (Nat × Nat) → Option (Int32 × (Nat → Nat → Int32) × (Nat → Nat → Int64) × Nat × (Nat × Nat))) (hi : i + 6 ≤ nS) (hn : nS ≤ 3072) (zp : ZP Z) (h : Inv Z I) : Lw Z c1 i nS C (lb_239_7 c1 (nI i) nS I J W C) := by
  have p1 : nI i + (1 : Int32) = nI (i + 1) := addN i 1
  have n1 : ex_in (nI (i + 1)) nS := (inN (by omega)).mpr (by omega)
  have v1 : (nI (i + 1)).toNatClampNeg = i + 1 := clN (by omega)
  have p6 : nI i + (6 : Int32) = nI (i + 6) := addN i 6
  obtain ⟨q, b, I2, a1, a2, a3, a4⟩ := count_s h (I 0 (i + 1))
  have e : f_223 (I 0 (i + 1)) I J = some (I2 97 0, JJ q J) := by
    rw [f_223, a1, Option.bind_some]
    exact mtN (fun k J => some (k, J)) a4
  refine ⟨I2, JJ q J, W, I2 97 0, ?_, h.keep a3⟩
  simp only [lb_239_7, p1, if_pos n1, v1, e, Option.bind_some, a2, f_131, if_true]
  refine (law_if rfl rfl a4).trans ?_
  rw [lb_239_9, lb_239_66, p6]
theorem lw_10 (c1 : Int32 → Nat → (Nat → Nat → Int32) → (Nat → Nat → Int64) → Nat → (Nat × Nat) → Option (Int32 × (Nat → Nat → Int32) × (Nat → Nat → Int64) × Nat × (Nat × Nat))) (hi : i + 6 ≤ nS) (hn : nS ≤ 3072) (zp : ZP Z) (h : Inv Z I) : Lw Z c1 i nS C (lb_239_10 c1 (nI i) nS I J W C) := by
  have p1 : nI i + (1 : Int32) = nI (i + 1) := addN i 1
  have n1 : ex_in (nI (i + 1)) nS := (inN (by omega)).mpr (by omega)
  have v1 : (nI (i + 1)).toNatClampNeg = i + 1 := clN (by omega)
  have p2 : nI i + (2 : Int32) = nI (i + 2) := addN i 2
  have n2 : ex_in (nI (i + 2)) nS := (inN (by omega)).mpr (by omega)
  have v2 : (nI (i + 2)).toNatClampNeg = i + 2 := clN (by omega)
  have p3 : nI i + (3 : Int32) = nI (i + 3) := addN i 3
  have n3 : ex_in (nI (i + 3)) nS := (inN (by omega)).mpr (by omega)
  have v3 : (nI (i + 3)).toNatClampNeg = i + 3 := clN (by omega)
  have p6 : nI i + (6 : Int32) = nI (i + 6) := addN i 6
  obtain ⟨o, C', H', N', M', w', K', S', Y', L', g1, _⟩ := id h
  obtain ⟨q, b, I2, a1, a2, a3, a4⟩ := told_s g1 (I 0 (i + 1)) (I 0 (i + 2)) (I 0 (i + 3))
  have e : f_224 (I 0 (i + 1)) (I 0 (i + 2)) (I 0 (i + 3)) I J = some (I2 97 0, JJ q J) := by
    rw [f_224, a1, Option.bind_some]
    exact mtN (fun k J => some (k, J)) a4
  refine ⟨I2, JJ q J, W, I2 97 0, ?_, h.keep a3⟩
  simp only [lb_239_10, p1, if_pos n1, v1, p2, if_pos n2, v2, p3, if_pos n3, v3, e, Option.bind_some, a2, f_131, if_true]
  refine (law_if rfl rfl a4).trans ?_
  rw [lb_239_12, lb_239_66, p6]
theorem lw_13 (c1 : Int32 → Nat → (Nat → Nat → Int32) → (Nat → Nat → Int64) → Nat → (Nat × Nat) → Option (Int32 × (Nat → Nat → Int32) × (Nat → Nat → Int64) × Nat × (Nat × Nat))) (hi : i + 6 ≤ nS) (hn : nS ≤ 3072) (zp : ZP Z) (h : Inv Z I) : Lw Z c1 i nS C (lb_239_13 c1 (nI i) nS I J W C) := by
  have p1 : nI i + (1 : Int32) = nI (i + 1) := addN i 1
  have n1 : ex_in (nI (i + 1)) nS := (inN (by omega)).mpr (by omega)
  have v1 : (nI (i + 1)).toNatClampNeg = i + 1 := clN (by omega)
  have p2 : nI i + (2 : Int32) = nI (i + 2) := addN i 2
  have n2 : ex_in (nI (i + 2)) nS := (inN (by omega)).mpr (by omega)
  have v2 : (nI (i + 2)).toNatClampNeg = i + 2 := clN (by omega)
  have p3 : nI i + (3 : Int32) = nI (i + 3) := addN i 3
  have n3 : ex_in (nI (i + 3)) nS := (inN (by omega)).mpr (by omega)
  have v3 : (nI (i + 3)).toNatClampNeg = i + 3 := clN (by omega)
  have p6 : nI i + (6 : Int32) = nI (i + 6) := addN i 6
  obtain ⟨o, C', H', N', M', w', K', S', Y', L', g1, _⟩ := id h
  obtain ⟨q, I1, b, I2, a1, k1, a2, k2, a4⟩ := goes_s g1 (I 0 (i + 1)) (I 0 (i + 2)) (I 0 (i + 3))
  have z0 : I1 0 = I 0 := k1.1 0 (by decide)
  have e : f_225 (I 0 (i + 1)) (I 0 (i + 2)) (I 0 (i + 3)) I J = some (I2 97 0, I1, JJ q J) := by
    rw [f_225, a1, Option.bind_some]
    exact mtN (fun k J => some (k, I1, J)) a4
  refine ⟨I2, JJ q J, W, I2 97 0, ?_, (h.keep k1).keep k2⟩
  simp only [lb_239_13, p1, if_pos n1, v1, p2, if_pos n2, v2, p3, if_pos n3, v3, e, Option.bind_some, z0, a2, f_131, if_true]
  refine (law_if rfl rfl a4).trans ?_
  rw [lb_239_15, lb_239_66, p6]
theorem lw_16 (c1 : Int32 → Nat → (Nat → Nat → Int32) → (Nat → Nat → Int64) → Nat → (Nat × Nat) → Option (Int32 × (Nat → Nat → Int32) × (Nat → Nat → Int64) × Nat × (Nat × Nat))) (hi : i + 6 ≤ nS) (hn : nS ≤ 3072) (zp : ZP Z) (h : Inv Z I) : Lw Z c1 i nS C (lb_239_16 c1 (nI i) nS I J W C) := by
  have p1 : nI i + (1 : Int32) = nI (i + 1) := addN i 1
  have n1 : ex_in (nI (i + 1)) nS := (inN (by omega)).mpr (by omega)
  have v1 : (nI (i + 1)).toNatClampNeg = i + 1 := clN (by omega)
  have p2 : nI i + (2 : Int32) = nI (i + 2) := addN i 2
  have n2 : ex_in (nI (i + 2)) nS := (inN (by omega)).mpr (by omega)
  have v2 : (nI (i + 2)).toNatClampNeg = i + 2 := clN (by omega)
  have p6 : nI i + (6 : Int32) = nI (i + 6) := addN i 6
  obtain ⟨o, C', H', N', M', w', K', S', Y', L', g1, _⟩ := id h
  obtain ⟨q, b, I2, a1, a2, a3, a4⟩ := end_s g1 (I 0 (i + 1)) (I 0 (i + 2))
  have e : f_226 (I 0 (i + 1)) (I 0 (i + 2)) I J = some (I2 97 0, JJ q J) := by
    rw [f_226, a1, Option.bind_some]
    exact mtB (fun k J => some (k, J)) a4
  refine ⟨I2, JJ q J, W, I2 97 0, ?_, h.keep a3⟩
  simp only [lb_239_16, p1, if_pos n1, v1, p2, if_pos n2, v2, e, Option.bind_some, a2, f_131, if_true]
  refine (law_if rfl rfl a4).trans ?_
  rw [lb_239_18, lb_239_66, p6]
theorem lw_19 (c1 : Int32 → Nat → (Nat → Nat → Int32) → (Nat → Nat → Int64) → Nat → (Nat × Nat) → Option (Int32 × (Nat → Nat → Int32) × (Nat → Nat → Int64) × Nat × (Nat × Nat))) (hi : i + 6 ≤ nS) (hn : nS ≤ 3072) (zp : ZP Z) (h : Inv Z I) : Lw Z c1 i nS C (lb_239_19 c1 (nI i) nS I J W C) := by
  have p1 : nI i + (1 : Int32) = nI (i + 1) := addN i 1
  have n1 : ex_in (nI (i + 1)) nS := (inN (by omega)).mpr (by omega)
  have v1 : (nI (i + 1)).toNatClampNeg = i + 1 := clN (by omega)
  have p6 : nI i + (6 : Int32) = nI (i + 6) := addN i 6
  obtain ⟨o, C', H', N', M', w', K', S', Y', L', g1, _⟩ := id h
  obtain ⟨q, I1, b, I2, a1, k1, a2, k2, a4⟩ := sure_s g1 (I 0 (i + 1))
  have z0 : I1 0 = I 0 := k1.1 0 (by decide)
  have e : f_227 (I 0 (i + 1)) I J = some (I2 97 0, I1, JJ q J) := by
    rw [f_227, a1, Option.bind_some]
    exact mtI (fun k J => some (k, I1, J)) a4
  refine ⟨I2, JJ q J, W, I2 97 0, ?_, (h.keep k1).keep k2⟩
  simp only [lb_239_19, p1, if_pos n1, v1, e, Option.bind_some, z0, a2, f_131, if_true]
  refine (law_if rfl rfl a4).trans ?_
  rw [lb_239_21, lb_239_66, p6]
theorem lw_22 (c1 : Int32 → Nat → (Nat → Nat → Int32) → (Nat → Nat → Int64) → Nat → (Nat × Nat) → Option (Int32 × (Nat → Nat → Int32) × (Nat → Nat → Int64) × Nat × (Nat × Nat))) (hi : i + 6 ≤ nS) (hn : nS ≤ 3072) (zp : ZP Z) (h : Inv Z I) : Lw Z c1 i nS C (lb_239_22 c1 (nI i) nS I J W C) := by
  have p6 : nI i + (6 : Int32) = nI (i + 6) := addN i 6
  obtain ⟨o, C', H', N', M', w', K', S', Y', L', g1, _⟩ := id h
  obtain ⟨q, I1, I2, a1, k1, a2, k2⟩ := soonest_s g1
  refine ⟨I2, J, W, 0, ?_, (h.keep k1).keep k2⟩
  simp only [lb_239_22, a1, Option.bind_some, a2, if_true]
  rw [lb_239_66, p6]
  rfl
theorem lw_23 (c1 : Int32 → Nat → (Nat → Nat → Int32) → (Nat → Nat → Int64) → Nat → (Nat × Nat) → Option (Int32 × (Nat → Nat → Int32) × (Nat → Nat → Int64) × Nat × (Nat × Nat))) (hi : i + 6 ≤ nS) (hn : nS ≤ 3072) (zp : ZP Z) (h : Inv Z I) : Lw Z c1 i nS C (lb_239_23 c1 (nI i) nS I J W C) := by
  have p1 : nI i + (1 : Int32) = nI (i + 1) := addN i 1
  have n1 : ex_in (nI (i + 1)) nS := (inN (by omega)).mpr (by omega)
  have v1 : (nI (i + 1)).toNatClampNeg = i + 1 := clN (by omega)
  have p2 : nI i + (2 : Int32) = nI (i + 2) := addN i 2
  have n2 : ex_in (nI (i + 2)) nS := (inN (by omega)).mpr (by omega)
  have v2 : (nI (i + 2)).toNatClampNeg = i + 2 := clN (by omega)
  have p6 : nI i + (6 : Int32) = nI (i + 6) := addN i 6
  obtain ⟨q, I1, b, I2, a1, a2, z0, a3, a4⟩ := wished_s h (I 0 (i + 1)) (I 0 (i + 2))
  have e : f_228 (I 0 (i + 1)) (I 0 (i + 2)) I J = some (I2 97 0, I1, JJ q J) := by
    rw [f_228, a1, Option.bind_some]
    exact mtB (fun k J => some (k, I1, J)) a4
  refine ⟨I2, JJ q J, W, I2 97 0, ?_, a3⟩
  simp only [lb_239_23, p1, if_pos n1, v1, p2, if_pos n2, v2, e, Option.bind_some, z0, a2, f_131, if_true]
  refine (law_if rfl rfl a4).trans ?_
  rw [lb_239_25, lb_239_66, p6]
theorem lw_26 (c1 : Int32 → Nat → (Nat → Nat → Int32) → (Nat → Nat → Int64) → Nat → (Nat × Nat) → Option (Int32 × (Nat → Nat → Int32) × (Nat → Nat → Int64) × Nat × (Nat × Nat))) (hi : i + 6 ≤ nS) (hn : nS ≤ 3072) (zp : ZP Z) (h : Inv Z I) : Lw Z c1 i nS C (lb_239_26 c1 (nI i) nS I J W C) := by
  have p1 : nI i + (1 : Int32) = nI (i + 1) := addN i 1
  have n1 : ex_in (nI (i + 1)) nS := (inN (by omega)).mpr (by omega)
  have v1 : (nI (i + 1)).toNatClampNeg = i + 1 := clN (by omega)
  have p6 : nI i + (6 : Int32) = nI (i + 6) := addN i 6
  obtain ⟨q, b, I2, a1, a2, a3, a4⟩ := laying_s h (I 0 (i + 1))
  have e : f_229 (I 0 (i + 1)) I J = some (I2 97 0, JJ q J) := by
    rw [f_229, a1, Option.bind_some]
    exact mtN (fun k J => some (k, J)) a4
  refine ⟨I2, JJ q J, W, I2 97 0, ?_, h.keep a3⟩
  simp only [lb_239_26, p1, if_pos n1, v1, e, Option.bind_some, a2, f_131, if_true]
  refine (law_if rfl rfl a4).trans ?_
  rw [lb_239_28, lb_239_66, p6]
theorem lw_29 (c1 : Int32 → Nat → (Nat → Nat → Int32) → (Nat → Nat → Int64) → Nat → (Nat × Nat) → Option (Int32 × (Nat → Nat → Int32) × (Nat → Nat → Int64) × Nat × (Nat × Nat))) (hi : i + 6 ≤ nS) (hn : nS ≤ 3072) (zp : ZP Z) (h : Inv Z I) : Lw Z c1 i nS C (lb_239_29 c1 (nI i) nS I J W C) := by
  have p1 : nI i + (1 : Int32) = nI (i + 1) := addN i 1
  have n1 : ex_in (nI (i + 1)) nS := (inN (by omega)).mpr (by omega)
  have v1 : (nI (i + 1)).toNatClampNeg = i + 1 := clN (by omega)
  have p6 : nI i + (6 : Int32) = nI (i + 6) := addN i 6
  obtain ⟨o, C', H', N', M', w', K', S', Y', L', g1, _⟩ := id h
  obtain ⟨q, I1, b, I2, a1, k1, a2, k2, a4⟩ := fewest_s g1 (I 0 (i + 1))
  have z0 : I1 0 = I 0 := k1.1 0 (by decide)
  have e : f_230 (I 0 (i + 1)) I J = some (I2 97 0, I1, JJ q J) := by
    rw [f_230, a1, Option.bind_some]
    exact mtN (fun k J => some (k, I1, J)) a4
  refine ⟨I2, JJ q J, W, I2 97 0, ?_, (h.keep k1).keep k2⟩
  simp only [lb_239_29, p1, if_pos n1, v1, e, Option.bind_some, z0, a2, f_131, if_true]
  refine (law_if rfl rfl a4).trans ?_
  rw [lb_239_31, lb_239_66, p6]
theorem lw_32 (c1 : Int32 → Nat → (Nat → Nat → Int32) → (Nat → Nat → Int64) → Nat → (Nat × Nat) → Option (Int32 × (Nat → Nat → Int32) × (Nat → Nat → Int64) × Nat × (Nat × Nat))) (hi : i + 6 ≤ nS) (hn : nS ≤ 3072) (zp : ZP Z) (h : Inv Z I) : Lw Z c1 i nS C (lb_239_32 c1 (nI i) nS I J W C) := by
  have p1 : nI i + (1 : Int32) = nI (i + 1) := addN i 1
  have n1 : ex_in (nI (i + 1)) nS := (inN (by omega)).mpr (by omega)
  have v1 : (nI (i + 1)).toNatClampNeg = i + 1 := clN (by omega)
  have p2 : nI i + (2 : Int32) = nI (i + 2) := addN i 2
  have n2 : ex_in (nI (i + 2)) nS := (inN (by omega)).mpr (by omega)
  have v2 : (nI (i + 2)).toNatClampNeg = i + 2 := clN (by omega)
  have p3 : nI i + (3 : Int32) = nI (i + 3) := addN i 3
  have n3 : ex_in (nI (i + 3)) nS := (inN (by omega)).mpr (by omega)
  have v3 : (nI (i + 3)).toNatClampNeg = i + 3 := clN (by omega)
  have p4 : nI i + (4 : Int32) = nI (i + 4) := addN i 4
  have n4 : ex_in (nI (i + 4)) nS := (inN (by omega)).mpr (by omega)
  have v4 : (nI (i + 4)).toNatClampNeg = i + 4 := clN (by omega)
  have p6 : nI i + (6 : Int32) = nI (i + 6) := addN i 6
  obtain ⟨o, C', H', N', M', w', K', S', Y', L', g1, _⟩ := id h
  obtain ⟨q, I1, b, I2, a1, k1, a2, k2, a4⟩ := always_s g1 (I 0 (i + 1)) (I 0 (i + 2)) (I 0 (i + 3)) (I 0 (i + 4))
  have z0 : I1 0 = I 0 := k1.1 0 (by decide)
  have e : f_231 (I 0 (i + 1)) (I 0 (i + 2)) (I 0 (i + 3)) (I 0 (i + 4)) I J = some (I2 97 0, I1, JL q J) := by
    rw [f_231, a1, Option.bind_some]
    rcases a4 with ⟨rfl, a5⟩ | ⟨rfl, a5⟩
    · rw [a5]
      show (if ex_in (0 : Int32) 1 then some ((0 : Int32), I1, up J 133 0 b) else none) = _
      rw [if_pos ex01]
      rfl
    · rw [a5]
      rfl
  refine ⟨I2, JL q J, W, I2 97 0, ?_, (h.keep k1).keep k2⟩
  simp only [lb_239_32, p1, if_pos n1, v1, p2, if_pos n2, v2, p3, if_pos n3, v3, p4, if_pos n4, v4, e, Option.bind_some, z0, a2, f_131, if_true]
  rw [if_pos ex01]
  rcases a4 with ⟨rfl, a5⟩ | ⟨rfl, a5⟩
  · have e133 : JL (.inl b) J 133 ((0 : Int32)).toNatClampNeg = b := up_at
    rw [a5, if_pos (show nI 0 = 0 from rfl), e133, lgs, if_pos rfl, lb_239_34, lb_239_66, p6]
  · rw [a5, if_neg (show ¬ nI 1 = 0 by decide), lb_239_34, lb_239_66, p6]
theorem lw_35 (c1 : Int32 → Nat → (Nat → Nat → Int32) → (Nat → Nat → Int64) → Nat → (Nat × Nat) → Option (Int32 × (Nat → Nat → Int32) × (Nat → Nat → Int64) × Nat × (Nat × Nat))) (hi : i + 6 ≤ nS) (hn : nS ≤ 3072) (zp : ZP Z) (h : Inv Z I) : Lw Z c1 i nS C (lb_239_35 c1 (nI i) nS I J W C) := by
  have p1 : nI i + (1 : Int32) = nI (i + 1) := addN i 1
  have n1 : ex_in (nI (i + 1)) nS := (inN (by omega)).mpr (by omega)
  have v1 : (nI (i + 1)).toNatClampNeg = i + 1 := clN (by omega)
  have p2 : nI i + (2 : Int32) = nI (i + 2) := addN i 2
  have n2 : ex_in (nI (i + 2)) nS := (inN (by omega)).mpr (by omega)
  have v2 : (nI (i + 2)).toNatClampNeg = i + 2 := clN (by omega)
  have p3 : nI i + (3 : Int32) = nI (i + 3) := addN i 3
  have n3 : ex_in (nI (i + 3)) nS := (inN (by omega)).mpr (by omega)
  have v3 : (nI (i + 3)).toNatClampNeg = i + 3 := clN (by omega)
  have p6 : nI i + (6 : Int32) = nI (i + 6) := addN i 6
  obtain ⟨o, C', H', N', M', w', K', S', Y', L', g1, _⟩ := id h
  obtain ⟨q, I1, b, I2, a1, k1, a2, k2, a4⟩ := two_s g1 (I 0 (i + 1)) (I 0 (i + 2)) (I 0 (i + 3))
  have z0 : I1 0 = I 0 := k1.1 0 (by decide)
  have e : f_232 (I 0 (i + 1)) (I 0 (i + 2)) (I 0 (i + 3)) I J = some (I2 97 0, I1, JJ q J) := by
    rw [f_232, a1, Option.bind_some]
    exact mtB (fun k J => some (k, I1, J)) a4
  refine ⟨I2, JJ q J, W, I2 97 0, ?_, (h.keep k1).keep k2⟩
  simp only [lb_239_35, p1, if_pos n1, v1, p2, if_pos n2, v2, p3, if_pos n3, v3, e, Option.bind_some, z0, a2, f_131, if_true]
  refine (law_if rfl rfl a4).trans ?_
  rw [lb_239_37, lb_239_66, p6]
theorem lw_38 (c1 : Int32 → Nat → (Nat → Nat → Int32) → (Nat → Nat → Int64) → Nat → (Nat × Nat) → Option (Int32 × (Nat → Nat → Int32) × (Nat → Nat → Int64) × Nat × (Nat × Nat))) (hi : i + 6 ≤ nS) (hn : nS ≤ 3072) (zp : ZP Z) (h : Inv Z I) : Lw Z c1 i nS C (lb_239_38 c1 (nI i) nS I J W C) := by
  have p1 : nI i + (1 : Int32) = nI (i + 1) := addN i 1
  have n1 : ex_in (nI (i + 1)) nS := (inN (by omega)).mpr (by omega)
  have v1 : (nI (i + 1)).toNatClampNeg = i + 1 := clN (by omega)
  have p6 : nI i + (6 : Int32) = nI (i + 6) := addN i 6
  obtain ⟨o, C', H', N', M', w', K', S', Y', L', g1, _⟩ := id h
  obtain ⟨q, I1, b, I2, a1, k1, a2, k2, a4⟩ := worst_s g1 (I 0 (i + 1))
  have z0 : I1 0 = I 0 := k1.1 0 (by decide)
  have e : f_233 (I 0 (i + 1)) I J = some (I2 97 0, I1, JJ q J) := by
    rw [f_233, a1, Option.bind_some]
    exact mtI (fun k J => some (k, I1, J)) a4
  refine ⟨I2, JJ q J, W, I2 97 0, ?_, (h.keep k1).keep k2⟩
  simp only [lb_239_38, p1, if_pos n1, v1, e, Option.bind_some, z0, a2, f_131, if_true]
  refine (law_if rfl rfl a4).trans ?_
  rw [lb_239_40, lb_239_66, p6]
theorem lw_41 (c1 : Int32 → Nat → (Nat → Nat → Int32) → (Nat → Nat → Int64) → Nat → (Nat × Nat) → Option (Int32 × (Nat → Nat → Int32) × (Nat → Nat → Int64) × Nat × (Nat × Nat))) (hi : i + 6 ≤ nS) (hn : nS ≤ 3072) (zp : ZP Z) (h : Inv Z I) : Lw Z c1 i nS C (lb_239_41 c1 (nI i) nS I J W C) := by
  have p1 : nI i + (1 : Int32) = nI (i + 1) := addN i 1
  have n1 : ex_in (nI (i + 1)) nS := (inN (by omega)).mpr (by omega)
  have v1 : (nI (i + 1)).toNatClampNeg = i + 1 := clN (by omega)
  have p6 : nI i + (6 : Int32) = nI (i + 6) := addN i 6
  obtain ⟨q, b, I2, a1, a2, a3, a4⟩ := card_s h (I 0 (i + 1))
  have e : f_234 (I 0 (i + 1)) I J = some (I2 97 0, JJ q J) := by
    rw [f_234, a1, Option.bind_some]
    exact mtN (fun k J => some (k, J)) a4
  refine ⟨I2, JJ q J, W, I2 97 0, ?_, h.keep a3⟩
  simp only [lb_239_41, p1, if_pos n1, v1, e, Option.bind_some, a2, f_131, if_true]
  refine (law_if rfl rfl a4).trans ?_
  rw [lb_239_43, lb_239_66, p6]
theorem lw_44 (c1 : Int32 → Nat → (Nat → Nat → Int32) → (Nat → Nat → Int64) → Nat → (Nat × Nat) → Option (Int32 × (Nat → Nat → Int32) × (Nat → Nat → Int64) × Nat × (Nat × Nat))) (hi : i + 6 ≤ nS) (hn : nS ≤ 3072) (zp : ZP Z) (h : Inv Z I) : Lw Z c1 i nS C (lb_239_44 c1 (nI i) nS I J W C) := by
  have p1 : nI i + (1 : Int32) = nI (i + 1) := addN i 1
  have n1 : ex_in (nI (i + 1)) nS := (inN (by omega)).mpr (by omega)
  have v1 : (nI (i + 1)).toNatClampNeg = i + 1 := clN (by omega)
  have p2 : nI i + (2 : Int32) = nI (i + 2) := addN i 2
  have n2 : ex_in (nI (i + 2)) nS := (inN (by omega)).mpr (by omega)
  have v2 : (nI (i + 2)).toNatClampNeg = i + 2 := clN (by omega)
  have p3 : nI i + (3 : Int32) = nI (i + 3) := addN i 3
  have n3 : ex_in (nI (i + 3)) nS := (inN (by omega)).mpr (by omega)
  have v3 : (nI (i + 3)).toNatClampNeg = i + 3 := clN (by omega)
  have p4 : nI i + (4 : Int32) = nI (i + 4) := addN i 4
  have n4 : ex_in (nI (i + 4)) nS := (inN (by omega)).mpr (by omega)
  have v4 : (nI (i + 4)).toNatClampNeg = i + 4 := clN (by omega)
  have p6 : nI i + (6 : Int32) = nI (i + 6) := addN i 6
  obtain ⟨q, I1, I2, a1, a2, z0, a3⟩ := answer_s h (I 0 (i + 1)) (I 0 (i + 2)) (I 0 (i + 3)) (I 0 (i + 4))
  refine ⟨I2, J, W, 0, ?_, a3⟩
  simp only [lb_239_44, p1, if_pos n1, v1, p2, if_pos n2, v2, p3, if_pos n3, v3, p4, if_pos n4, v4, a1, Option.bind_some, z0, a2, if_true]
  rw [lb_239_66, p6]
  rfl
theorem lw_45 (c1 : Int32 → Nat → (Nat → Nat → Int32) → (Nat → Nat → Int64) → Nat → (Nat × Nat) → Option (Int32 × (Nat → Nat → Int32) × (Nat → Nat → Int64) × Nat × (Nat × Nat))) (hi : i + 6 ≤ nS) (hn : nS ≤ 3072) (zp : ZP Z) (h : Inv Z I) : Lw Z c1 i nS C (lb_239_45 c1 (nI i) nS I J W C) := by
  have p6 : nI i + (6 : Int32) = nI (i + 6) := addN i 6
  obtain ⟨q, I1, I2, a1, a2, a3⟩ := undo_s h
  refine ⟨I2, J, W, 0, ?_, a3⟩
  simp only [lb_239_45, a1, Option.bind_some, a2, if_true]
  rw [lb_239_66, p6]
  rfl
theorem lw_46 (c1 : Int32 → Nat → (Nat → Nat → Int32) → (Nat → Nat → Int64) → Nat → (Nat × Nat) → Option (Int32 × (Nat → Nat → Int32) × (Nat → Nat → Int64) × Nat × (Nat × Nat))) (hi : i + 6 ≤ nS) (hn : nS ≤ 3072) (zp : ZP Z) (h : Inv Z I) : Lw Z c1 i nS C (lb_239_46 c1 (nI i) nS I J W C) := by
  have p1 : nI i + (1 : Int32) = nI (i + 1) := addN i 1
  have n1 : ex_in (nI (i + 1)) nS := (inN (by omega)).mpr (by omega)
  have v1 : (nI (i + 1)).toNatClampNeg = i + 1 := clN (by omega)
  have p6 : nI i + (6 : Int32) = nI (i + 6) := addN i 6
  obtain ⟨q, b, I2, a1, a2, a3, a4⟩ := lies_s h (I 0 (i + 1))
  have e : f_235 (I 0 (i + 1)) I J = some (I2 97 0, JJ q J) := by
    rw [f_235, a1, Option.bind_some]
    exact mtN (fun k J => some (k, J)) a4
  refine ⟨I2, JJ q J, W, I2 97 0, ?_, h.keep a3⟩
  simp only [lb_239_46, p1, if_pos n1, v1, e, Option.bind_some, a2, f_131, if_true]
  refine (law_if rfl rfl a4).trans ?_
  rw [lb_239_48, lb_239_66, p6]
theorem lw_49 (c1 : Int32 → Nat → (Nat → Nat → Int32) → (Nat → Nat → Int64) → Nat → (Nat × Nat) → Option (Int32 × (Nat → Nat → Int32) × (Nat → Nat → Int64) × Nat × (Nat × Nat))) (hi : i + 6 ≤ nS) (hn : nS ≤ 3072) (zp : ZP Z) (h : Inv Z I) : Lw Z c1 i nS C (lb_239_49 c1 (nI i) nS I J W C) := by
  have p6 : nI i + (6 : Int32) = nI (i + 6) := addN i 6
  obtain ⟨q, I2, a1, a2, a3⟩ := fits_s h
  refine ⟨I2, J, W, 0, ?_, h.keep a3⟩
  simp only [lb_239_49, a1, Option.bind_some, a2, lgs, if_true]
  rw [lb_239_66, p6]
  rfl
theorem lw_50 (c1 : Int32 → Nat → (Nat → Nat → Int32) → (Nat → Nat → Int64) → Nat → (Nat × Nat) → Option (Int32 × (Nat → Nat → Int32) × (Nat → Nat → Int64) × Nat × (Nat × Nat))) (hi : i + 6 ≤ nS) (hn : nS ≤ 3072) (zp : ZP Z) (h : Inv Z I) : Lw Z c1 i nS C (lb_239_50 c1 (nI i) nS I J W C) := by
  have p6 : nI i + (6 : Int32) = nI (i + 6) := addN i 6
  obtain ⟨I1, I2, a1, a2, a3⟩ := see_s h
  refine ⟨I2, J, W, 0, ?_, a3⟩
  simp only [lb_239_50, a1, Option.bind_some, a2]
  rw [lb_239_66, p6]
  rfl
theorem lw_51 (c1 : Int32 → Nat → (Nat → Nat → Int32) → (Nat → Nat → Int64) → Nat → (Nat × Nat) → Option (Int32 × (Nat → Nat → Int32) × (Nat → Nat → Int64) × Nat × (Nat × Nat))) (hi : i + 6 ≤ nS) (hn : nS ≤ 3072) (zp : ZP Z) (h : Inv Z I) : Lw Z c1 i nS C (lb_239_51 c1 (nI i) nS I J W C) := by
  have p1 : nI i + (1 : Int32) = nI (i + 1) := addN i 1
  have n1 : ex_in (nI (i + 1)) nS := (inN (by omega)).mpr (by omega)
  have v1 : (nI (i + 1)).toNatClampNeg = i + 1 := clN (by omega)
  have p6 : nI i + (6 : Int32) = nI (i + 6) := addN i 6
  obtain ⟨q, I1, b, I2, a1, k1, a2, k2, a4⟩ := between_s h (I 0 (i + 1))
  have z0 : I1 0 = I 0 := k1.1 0 (by decide)
  have e : f_236 (I 0 (i + 1)) I J = some (I2 97 0, I1, JJ q J) := by
    rw [f_236, a1, Option.bind_some]
    exact mtN (fun k J => some (k, I1, J)) a4
  refine ⟨I2, JJ q J, W, I2 97 0, ?_, (h.keep k1).keep k2⟩
  simp only [lb_239_51, p1, if_pos n1, v1, e, Option.bind_some, z0, a2, f_131, if_true]
  refine (law_if rfl rfl a4).trans ?_
  rw [lb_239_53, lb_239_66, p6]
theorem lw_54 (c1 : Int32 → Nat → (Nat → Nat → Int32) → (Nat → Nat → Int64) → Nat → (Nat × Nat) → Option (Int32 × (Nat → Nat → Int32) × (Nat → Nat → Int64) × Nat × (Nat × Nat))) (hi : i + 6 ≤ nS) (hn : nS ≤ 3072) (zp : ZP Z) (h : Inv Z I) : Lw Z c1 i nS C (lb_239_54 c1 (nI i) nS I J W C) := by
  have p1 : nI i + (1 : Int32) = nI (i + 1) := addN i 1
  have n1 : ex_in (nI (i + 1)) nS := (inN (by omega)).mpr (by omega)
  have v1 : (nI (i + 1)).toNatClampNeg = i + 1 := clN (by omega)
  have p2 : nI i + (2 : Int32) = nI (i + 2) := addN i 2
  have n2 : ex_in (nI (i + 2)) nS := (inN (by omega)).mpr (by omega)
  have v2 : (nI (i + 2)).toNatClampNeg = i + 2 := clN (by omega)
  have p3 : nI i + (3 : Int32) = nI (i + 3) := addN i 3
  have n3 : ex_in (nI (i + 3)) nS := (inN (by omega)).mpr (by omega)
  have v3 : (nI (i + 3)).toNatClampNeg = i + 3 := clN (by omega)
  have p6 : nI i + (6 : Int32) = nI (i + 6) := addN i 6
  obtain ⟨o, C', H', N', M', w', K', S', Y', L', g1, _⟩ := id h
  obtain ⟨q, b, I2, a1, a2, a3, a4⟩ := evenings_s g1 (I 0 (i + 1)) (I 0 (i + 2)) (I 0 (i + 3))
  have e : f_237 (I 0 (i + 1)) (I 0 (i + 2)) (I 0 (i + 3)) I J = some (I2 97 0, JJ q J) := by
    rw [f_237, a1, Option.bind_some]
    exact mtI (fun k J => some (k, J)) a4
  refine ⟨I2, JJ q J, W, I2 97 0, ?_, h.keep a3⟩
  simp only [lb_239_54, p1, if_pos n1, v1, p2, if_pos n2, v2, p3, if_pos n3, v3, e, Option.bind_some, a2, f_131, if_true]
  refine (law_if rfl rfl a4).trans ?_
  rw [lb_239_56, lb_239_66, p6]
theorem lw_57 (c1 : Int32 → Nat → (Nat → Nat → Int32) → (Nat → Nat → Int64) → Nat → (Nat × Nat) → Option (Int32 × (Nat → Nat → Int32) × (Nat → Nat → Int64) × Nat × (Nat × Nat))) (hi : i + 6 ≤ nS) (hn : nS ≤ 3072) (zp : ZP Z) (h : Inv Z I) : Lw Z c1 i nS C (lb_239_57 c1 (nI i) nS I J W C) := by
  have p1 : nI i + (1 : Int32) = nI (i + 1) := addN i 1
  have n1 : ex_in (nI (i + 1)) nS := (inN (by omega)).mpr (by omega)
  have v1 : (nI (i + 1)).toNatClampNeg = i + 1 := clN (by omega)
  have p2 : nI i + (2 : Int32) = nI (i + 2) := addN i 2
  have n2 : ex_in (nI (i + 2)) nS := (inN (by omega)).mpr (by omega)
  have v2 : (nI (i + 2)).toNatClampNeg = i + 2 := clN (by omega)
  have p6 : nI i + (6 : Int32) = nI (i + 6) := addN i 6
  obtain ⟨o, C', H', N', M', w', K', S', Y', L', g1, _⟩ := id h
  have go : ∀ y : Int32, Lw Z c1 i nS C ((f_238 (I 0 (i + 1)) y J).bind fun q63 => (lb_239_61 c1 (nI i) q63.1 (I 0 (i + 1)) y nS I q63.2 W (xk C q63.1))) := fun y => by
    obtain ⟨q, b, I2, a1, a2, a3, a4⟩ := weigh_s g1 (I 0 (i + 1)) y
    have e : f_238 (I 0 (i + 1)) y J = some (I2 97 0, JJ q J) := by
      rw [f_238, a1, Option.bind_some]
      exact mtI (fun k J => some (k, J)) a4
    refine ⟨I2, JJ q J, W, I2 97 0, ?_, h.keep a3⟩
    simp only [e, lb_239_61, a2, Option.bind_some, f_131, if_true]
    refine (law_if rfl rfl a4).trans ?_
    rw [lb_239_63, lb_239_66, p6]
  simp only [lb_239_57, lb_239_59, p1, if_pos n1, v1, p2, if_pos n2, v2]
  by_cases y : I 0 (i + 2) = 0
  · simp only [if_pos y]
    exact go 0
  · simp only [if_neg y]
    exact go 1
theorem lw_64 (c1 : Int32 → Nat → (Nat → Nat → Int32) → (Nat → Nat → Int64) → Nat → (Nat × Nat) → Option (Int32 × (Nat → Nat → Int32) × (Nat → Nat → Int64) × Nat × (Nat × Nat))) (hi : i + 6 ≤ nS) (hn : nS ≤ 3072) (zp : ZP Z) (h : Inv Z I) : Lw Z c1 i nS C (lb_239_64 c1 (nI i) nS I J W C) := by
  have p6 : nI i + (6 : Int32) = nI (i + 6) := addN i 6
  obtain ⟨I1, I2, a1, a2, a3⟩ := image_s h
  refine ⟨I2, J, W, 0, ?_, a3⟩
  simp only [lb_239_64, a1, Option.bind_some, a2]
  rw [lb_239_66, p6]
  rfl
theorem lw_65 (c1 : Int32 → Nat → (Nat → Nat → Int32) → (Nat → Nat → Int64) → Nat → (Nat × Nat) → Option (Int32 × (Nat → Nat → Int32) × (Nat → Nat → Int64) × Nat × (Nat × Nat))) (hi : i + 6 ≤ nS) (hn : nS ≤ 3072) (zp : ZP Z) (h : Inv Z I) : Lw Z c1 i nS C (lb_239_65 c1 (nI i) nS I J W C) := by
  have p6 : nI i + (6 : Int32) = nI (i + 6) := addN i 6
  obtain ⟨q, I1, I2, a1, a2, a3⟩ := restore_s h
  refine ⟨I2, J, W, 0, ?_, a3⟩
  simp only [lb_239_65, a1, Option.bind_some, a2, if_true]
  rw [lb_239_66, p6]
  rfl
theorem lw_66 (c1 : Int32 → Nat → (Nat → Nat → Int32) → (Nat → Nat → Int64) → Nat → (Nat × Nat) → Option (Int32 × (Nat → Nat → Int32) × (Nat → Nat → Int64) × Nat × (Nat × Nat))) (hi : i + 6 ≤ nS) (hn : nS ≤ 3072) (zp : ZP Z) (h : Inv Z I) : Lw Z c1 i nS C (lb_239_66 c1 (nI i) nS I J W C) := by
  have p6 : nI i + (6 : Int32) = nI (i + 6) := addN i 6
  refine ⟨I, J, W, 0, ?_, h⟩
  rw [lb_239_66, p6]
  rfl
theorem lw_bd (c1 : Int32 → Nat → (Nat → Nat → Int32) → (Nat → Nat → Int64) → Nat → (Nat × Nat) → Option (Int32 × (Nat → Nat → Int32) × (Nat → Nat → Int64) × Nat × (Nat × Nat))) (hi : i + 6 ≤ nS) (hn : nS ≤ 3072) (zp : ZP Z) (h : Inv Z I) : Lw Z c1 i nS C (bd_239_1 c1 (nI i) nS I J W C) := by
  have s6 : nI nS - (6 : Int32) = nI (nS - 6) := subN (b := 6) (by omega)
  have nl : ¬ nI (nS - 6) < nI i := fun z => by have := (ltN (by omega) (by omega)).mp z; omega
  have ii : ex_in (nI i) nS := (inN (by omega)).mpr (by omega)
  rw [bd_239_1, s6, if_neg nl, if_pos ii]
  by_cases k0 : (I 0 (nI i).toNatClampNeg) &&& (31 : Int32) = (0 : Int32)
  · rw [if_pos k0]
    exact lw_2 c1 hi hn zp h
  rw [if_neg k0]
  by_cases k1 : (I 0 (nI i).toNatClampNeg) &&& (31 : Int32) = (1 : Int32)
  · rw [if_pos k1]
    exact lw_3 c1 hi hn zp h
  rw [if_neg k1]
  by_cases k2 : (I 0 (nI i).toNatClampNeg) &&& (31 : Int32) = (2 : Int32)
  · rw [if_pos k2]
    exact lw_6 c1 hi hn zp h
  rw [if_neg k2]
  by_cases k3 : (I 0 (nI i).toNatClampNeg) &&& (31 : Int32) = (3 : Int32)
  · rw [if_pos k3]
    exact lw_7 c1 hi hn zp h
  rw [if_neg k3]
  by_cases k4 : (I 0 (nI i).toNatClampNeg) &&& (31 : Int32) = (4 : Int32)
  · rw [if_pos k4]
    exact lw_10 c1 hi hn zp h
  rw [if_neg k4]
  by_cases k5 : (I 0 (nI i).toNatClampNeg) &&& (31 : Int32) = (5 : Int32)
  · rw [if_pos k5]
    exact lw_13 c1 hi hn zp h
  rw [if_neg k5]
  by_cases k6 : (I 0 (nI i).toNatClampNeg) &&& (31 : Int32) = (6 : Int32)
  · rw [if_pos k6]
    exact lw_16 c1 hi hn zp h
  rw [if_neg k6]
  by_cases k7 : (I 0 (nI i).toNatClampNeg) &&& (31 : Int32) = (7 : Int32)
  · rw [if_pos k7]
    exact lw_19 c1 hi hn zp h
  rw [if_neg k7]
  by_cases k8 : (I 0 (nI i).toNatClampNeg) &&& (31 : Int32) = (8 : Int32)
  · rw [if_pos k8]
    exact lw_22 c1 hi hn zp h
  rw [if_neg k8]
  by_cases k9 : (I 0 (nI i).toNatClampNeg) &&& (31 : Int32) = (9 : Int32)
  · rw [if_pos k9]
    exact lw_23 c1 hi hn zp h
  rw [if_neg k9]
  by_cases k10 : (I 0 (nI i).toNatClampNeg) &&& (31 : Int32) = (10 : Int32)
  · rw [if_pos k10]
    exact lw_26 c1 hi hn zp h
  rw [if_neg k10]
  by_cases k11 : (I 0 (nI i).toNatClampNeg) &&& (31 : Int32) = (11 : Int32)
  · rw [if_pos k11]
    exact lw_29 c1 hi hn zp h
  rw [if_neg k11]
  by_cases k12 : (I 0 (nI i).toNatClampNeg) &&& (31 : Int32) = (12 : Int32)
  · rw [if_pos k12]
    exact lw_32 c1 hi hn zp h
  rw [if_neg k12]
  by_cases k13 : (I 0 (nI i).toNatClampNeg) &&& (31 : Int32) = (13 : Int32)
  · rw [if_pos k13]
    exact lw_35 c1 hi hn zp h
  rw [if_neg k13]
  by_cases k14 : (I 0 (nI i).toNatClampNeg) &&& (31 : Int32) = (14 : Int32)
  · rw [if_pos k14]
    exact lw_38 c1 hi hn zp h
  rw [if_neg k14]
  by_cases k15 : (I 0 (nI i).toNatClampNeg) &&& (31 : Int32) = (15 : Int32)
  · rw [if_pos k15]
    exact lw_41 c1 hi hn zp h
  rw [if_neg k15]
  by_cases k16 : (I 0 (nI i).toNatClampNeg) &&& (31 : Int32) = (16 : Int32)
  · rw [if_pos k16]
    exact lw_44 c1 hi hn zp h
  rw [if_neg k16]
  by_cases k17 : (I 0 (nI i).toNatClampNeg) &&& (31 : Int32) = (17 : Int32)
  · rw [if_pos k17]
    exact lw_45 c1 hi hn zp h
  rw [if_neg k17]
  by_cases k18 : (I 0 (nI i).toNatClampNeg) &&& (31 : Int32) = (18 : Int32)
  · rw [if_pos k18]
    exact lw_46 c1 hi hn zp h
  rw [if_neg k18]
  by_cases k19 : (I 0 (nI i).toNatClampNeg) &&& (31 : Int32) = (19 : Int32)
  · rw [if_pos k19]
    exact lw_49 c1 hi hn zp h
  rw [if_neg k19]
  by_cases k20 : (I 0 (nI i).toNatClampNeg) &&& (31 : Int32) = (20 : Int32)
  · rw [if_pos k20]
    exact lw_50 c1 hi hn zp h
  rw [if_neg k20]
  by_cases k21 : (I 0 (nI i).toNatClampNeg) &&& (31 : Int32) = (21 : Int32)
  · rw [if_pos k21]
    exact lw_51 c1 hi hn zp h
  rw [if_neg k21]
  by_cases k22 : (I 0 (nI i).toNatClampNeg) &&& (31 : Int32) = (22 : Int32)
  · rw [if_pos k22]
    exact lw_54 c1 hi hn zp h
  rw [if_neg k22]
  by_cases k23 : (I 0 (nI i).toNatClampNeg) &&& (31 : Int32) = (23 : Int32)
  · rw [if_pos k23]
    exact lw_57 c1 hi hn zp h
  rw [if_neg k23]
  by_cases k24 : (I 0 (nI i).toNatClampNeg) &&& (31 : Int32) = (24 : Int32)
  · rw [if_pos k24]
    exact lw_64 c1 hi hn zp h
  rw [if_neg k24]
  by_cases k25 : (I 0 (nI i).toNatClampNeg) &&& (31 : Int32) = (25 : Int32)
  · rw [if_pos k25]
    exact lw_65 c1 hi hn zp h
  rw [if_neg k25]
  exact lw_66 c1 hi hn zp h
/-- every run of calls -/
theorem law_s (hn : nS ≤ 3072) (zp : ZP Z) : ∀ (j i m : Nat) (I : Nat → Nat → Int32) (J : Nat → Nat → Int64) (W : Nat) (C : Nat × Nat), i ≤ nS → nS - i ≤ j → j < m → Inv Z I → ∃ I' J' W' C', fx (fun _ _ _ _ _ _ => none) bd_239_1 m (nI i) nS I J W C = some ((1 : Int32), I', J', W', C') ∧ C'.1 ≤ C.1 + j ∧ C'.2 ≤ C.2 + 6 * j := by
  intro j
  induction j with
  | zero =>
    intro i m I J W C hi hj hm h
    cases m with
    | zero => omega
    | succ m =>
      have e : i = nS := by omega
      refine ⟨I, J, W, C, ?_, Nat.le_refl _, Nat.le_refl _⟩
      have lt : nI nS - (6 : Int32) < nI i := by
        rw [e]
        by_cases z : 6 ≤ nS
        · rw [show nI nS - (6 : Int32) = nI (nS - 6) from subN (b := 6) z]
          exact (ltN (by omega) (by omega)).mpr (by omega)
        · have : ∀ n, n < 6 → nI n - (6 : Int32) < nI n := by decide
          exact this nS (by omega)
      rw [fx_s, bd_239_1, if_pos lt]
  | succ j ih =>
    intro i m I J W C hi hj hm h
    cases m with
    | zero => omega
    | succ m =>
      by_cases z : i + 6 ≤ nS
      · obtain ⟨I1, J1, W1, t, a1, a2⟩ := lw_bd (J := J) (W := W) (C := C) (fx (fun _ _ _ _ _ _ => none) bd_239_1 m) z hn zp h
        obtain ⟨I', J', W', C', b1, b2, b3⟩ := ih (i + 6) m I1 J1 W1 (xk C t) (by omega) (by omega) (by omega) a2
        have xb : (xk C t).1 ≤ C.1 + 1 ∧ (xk C t).2 ≤ C.2 + 6 := by
          unfold xk
          split
          · exact ⟨Nat.le_add_right _ _, Nat.le_add_right _ _⟩
          · exact ⟨Nat.le_refl _, Nat.le_refl _⟩
        refine ⟨I', J', W', C', ?_, by omega, by omega⟩
        rw [fx_s, a1]
        exact b1
      · refine ⟨I, J, W, C, ?_, Nat.le_add_right _ _, Nat.le_add_right _ _⟩
        have lt : nI nS - (6 : Int32) < nI i := by
          by_cases y : 6 ≤ nS
          · rw [show nI nS - (6 : Int32) = nI (nS - 6) from subN (b := 6) y]
            exact (ltN (by omega) (by omega)).mpr (by omega)
          · have : ∀ n, n < 6 → ∀ k, k ≤ n → nI n - (6 : Int32) < nI k := by decide
            exact this nS (by omega) i (by omega)
        rw [fx_s, bd_239_1, if_pos lt]
end LW
