/-! a line that tells a deal -/
theorem wd22a : ∀ W, W ≤ 10 → 8 ≤ W → f_22 W = some (nI (W - 8)) ∧ nI (W - 8) ≠ -1 ∧ ¬ mw W < 7 ∧ ¬ (9 : Int32) < mw W ∧ mw W - 7 = nI (W - 8) := by decide +kernel
theorem wd22b : ∀ W, W ≤ 17 → 1 ≤ W → ¬ (8 ≤ W ∧ W ≤ 10) → f_22 W = some (-1) ∧ (mw W < 7 ∨ (9 : Int32) < mw W) := by decide +kernel
theorem wd23a : ∀ W, W ≤ 12 → 11 ≤ W → f_23 W = some (nI (W - 11)) ∧ nI (W - 11) ≠ -1 ∧ (mw W = 10 ∨ mw W = 11) ∧ mw W - 10 = nI (W - 11) := by decide +kernel
theorem wd23b : ∀ W, W ≤ 17 → 1 ≤ W → ¬ (11 ≤ W ∧ W ≤ 12) → f_23 W = some (-1) ∧ mw W ≠ 10 ∧ mw W ≠ 11 := by decide +kernel
theorem wd13 : ∀ W, W ≤ 17 → 1 ≤ W → (mw W = 12 ↔ W = 13) := by decide +kernel
theorem Row.fr {f f' : Nat → Int32} {a : Nat} {L : List Int32} (h : Row f a L) (e : ∀ x, x < a + L.length → f' x = f x) : Row f' a L := fun i hi => by
  rw [e (a + i) (by omega)]
  exact h i hi
def psh {α : Type} (f : Nat → α) (D : Nat) (v : α) (d : Nat) : α := if d = D then v else f d
theorem psh_at {α : Type} {f : Nat → α} {D : Nat} {v : α} : psh f D v D = v := if_pos rfl
theorem psh_ne {α : Type} {f : Nat → α} {D d : Nat} {v : α} (h : d ≠ D) : psh f D v d = f d := if_neg h
theorem LSr.mono {s D : Nat} {R : Nat → List Int32} {A B Kd Sd : Nat → Nat} {I K : Nat → Nat → Int32} (h : LSr s D R A B Kd Sd I K) : ∀ j d, d + j = D → A d ≤ A D ∧ B d ≤ B D
  | 0, d, e => by
    obtain rfl : d = D := by omega
    exact ⟨Nat.le_refl _, Nat.le_refl _⟩
  | j + 1, d, e => by
    obtain ⟨a, b⟩ := h.mono j (d + 1) (by omega)
    obtain ⟨_, _, h3, h4, _⟩ := h.2.2.2.2.2.2.2.2.2 d (by omega)
    omega
section DL
variable {t : Nat → Nat} {E s e kd v sg W r D : Nat} {I K : Nat → Nat → Int32} {J : Nat → Nat → Int64}
theorem f159_x (h12 : K 97 12 = nI r) (h0 : 0 < r) (hr : r < 10) : f_159 K J = some (K, J) := by
  rw [f_159, f145_n h12 h0 hr, Option.bind_some, if_pos (show nI 0 = 0 from rfl)]
/-- what the model writes of a deal -/
def dlw (K : Nat → Nat → Int32) (D : Nat) (x y : Int32) : Nat → Nat → Int32 := up (up (up (up K 104 D x) 105 D y) 106 D (K 97 29)) 97 25 (nI (D + 1))
theorem dlw_k {k : Nat} {x y : Int32} (h : k ≠ 25) : dlw K D x y 97 k = K 97 k := by
  unfold dlw
  rw [up_nk h, up_ne (by decide), up_ne (by decide), up_ne (by decide)]
theorem dlw_m {x y : Int32} : Lm K (dlw K D x y) := ((((Lm.refl K).ar (by decide)).ar (by decide)).ar (by decide)).fk (by decide)
theorem l15_s {K1 : Nat → Nat → Int32} {J1 : Nat → Nat → Int64} {x2 x3 s1 : Int32} (h25 : K1 97 25 = nI D) (hD : D < 8) (e : f_147 s1 K J = some (K1, J1)) : lb_161_15 x2 x3 s1 K J = (f_159 (dlw K1 D (x2 - 7) (x3 - 10)) J1).bind fun q => lb_161_17 q.1 q.2 := by
  have i8 : ex_in (nI D) 8 := (inN (by omega)).mpr hD
  have cl : (nI D).toNatClampNeg = D := clN (by omega)
  have one : nI D + (1 : Int32) = nI (D + 1) := addN D 1
  have e1 : ∀ v, up K1 104 D v 97 = K1 97 := fun v => up_ne (by decide)
  have e2 : ∀ v w, up (up K1 104 D v) 105 D w 97 = K1 97 := fun v w => by rw [up_ne (by decide), e1]
  have e3 : ∀ v w z, up (up (up K1 104 D v) 105 D w) 106 D z 97 = K1 97 := fun v w z => by rw [up_ne (by decide), e2]
  rw [lb_161_15, e, Option.bind_some]
  simp only [h25, if_pos i8, cl, e1, e2, e3, one]
  rfl
/-- with a fault -/
theorem m15 {x2 x3 s1 : Int32} (h12 : K 97 12 = nI r) (h0 : 0 < r) (hr : r < 10) (h25 : K 97 25 = nI D) (hD : D < 8) : ∃ K', lb_161_15 x2 x3 s1 K J = some (K', J) ∧ K' 97 12 = nI r ∧ K' 97 13 = K 97 13 ∧ Lm K K' := by
  have g12 : dlw K D (x2 - 7) (x3 - 10) 97 12 = nI r := by rw [dlw_k (by decide)]; exact h12
  refine ⟨dlw K D (x2 - 7) (x3 - 10), ?_, g12, dlw_k (by decide), dlw_m⟩
  rw [l15_s h25 hD (f147_x h12 h0 hr), f159_x g12 h0 hr, Option.bind_some]
  exact l17_x g12 h0 hr
theorem m13 {x2 x3 s1 : Int32} (h12 : K 97 12 = nI r) (h0 : 0 < r) (hr : r < 10) : lb_161_13 x2 x3 s1 K J = lb_161_15 x2 x3 (0 : Int32) K J := by
  rw [lb_161_13, f147_x h12 h0 hr, Option.bind_some, f145_n h12 h0 hr, Option.bind_some, if_pos (show nI 0 = 0 from rfl), lb_161_14]
theorem m10 {x2 : Int32} (h12 : K 97 12 = nI r) (h0 : 0 < r) (hr : r < 10) : lb_161_10 x2 (-1) K J = lb_161_15 x2 (-1) (0 : Int32) K J := by
  rw [lb_161_10, if_neg (by decide), if_neg (by decide), m13 h12 h0 hr]
/-- both read a token -/
theorem tok_s (hTC : TC t E I) (hWZ : WZ I) (hCT : CT s e kd v sg I) (hTM : TM t E K) (hMT : MT s e kd v sg W K J) (he : e ≤ E) (W0 : Nat) : ∃ s' e' kd' v' sg' W' I' K' J', f_72 I W0 = some (I', W') ∧ f_140 K J = some (K', J') ∧ CT s' e' kd' v' sg' I' ∧ MT s' e' kd' v' sg' W' K' J' ∧ Tok E s' e' kd' v' sg' W' ∧ e ≤ s' ∧ Uk 60 [3, 4, 5, 7, 8] I I' ∧ Uk 97 [16, 17, 18, 19, 20, 21] K K' ∧ UJ J J' := by
  obtain ⟨s', e', kd', v', sg', W', I', a1, a2, a3, a4, a5⟩ := f72_s W0 hTC hWZ hCT.1 he
  obtain ⟨b1, b2⟩ := a2.tok (fun x hx => (hTC.2.2 x hx).1) he
  obtain ⟨K', J', c1, c2, c3, c4⟩ := f140_s (J := J) hTM hMT.1 he a2
  exact ⟨s', e', kd', v', sg', W', I', K', J', a1, c1, a3, c2, b1, b2, a5, c3, c4⟩
theorem LSr.push {s s' D a k y : Nat} {R : Nat → List Int32} {A B Kd Sd : Nat → Nat} {P : List Int32} {I I' K K' : Nat → Nat → Int32} (h : LSr s D R A B Kd Sd I K) (hD : D < 8) (hk : k < 3) (hy : y < 2) (ev : EVP P 1) (ha : A D + P.length ≤ s') (hb : B D + (encL P).length + 1 ≤ 2 * s') (e62 : I' 62 6 = nI (D + 1)) (e67 : I' 67 7 = nI (A D + P.length)) (e65 : I' 65 = up I 65 D (nI k) 65) (e66 : I' 66 = up I 66 D (nI y) 66) (e69 : I' 69 = up I 69 D (nI (A D + P.length)) 69) (e68 : ∀ x, x < A D → I' 68 x = I 68 x) (r68 : Row (I' 68) (A D) P) (k25 : K' 97 25 = nI (D + 1)) (k29 : K' 97 29 = nI (B D + (encL P).length + 1)) (k104 : K' 104 = up K 104 D (nI k) 104) (k105 : K' 105 = up K 105 D (nI y) 105) (k106 : K' 106 = up K 106 D (nI (B D)) 106) (k107 : ∀ x, x < B D → K' 107 x = K 107 x) (r107 : Row (K' 107) (B D) (encL P ++ [0])) : LSr s' (D + 1) (psh R D P) (psh A (D + 1) (A D + P.length)) (psh B (D + 1) (B D + (encL P).length + 1)) (psh Kd D k) (psh Sd D y) I' K' := by
  have mono := h.mono
  obtain ⟨h1, h2, h3, h4, h5, h6, h7, h8, h9, h10⟩ := h
  refine ⟨by omega, ?_, ?_, by rw [psh_at]; exact ha, by rw [psh_at]; exact hb, e62, by rw [psh_at]; exact e67, k25, by rw [psh_at]; exact k29, fun d hd => ?_⟩
  · rw [psh_ne (by omega)]; exact h2
  · rw [psh_ne (by omega)]; exact h3
  · by_cases z : d = D
    · subst z
      rw [psh_at, psh_at, psh_at, psh_at, psh_at, psh_ne (show d ≠ d + 1 by omega), psh_ne (show d ≠ d + 1 by omega), e65, e66, e69, k104, k105, k106, up_at, up_at, up_at, up_at, up_at, up_at]
      exact ⟨hk, hy, rfl, rfl, ev, rfl, rfl, rfl, r68, rfl, rfl, rfl, r107⟩
    · have hd' : d < D := by omega
      obtain ⟨g1, g2, g3, g4, g5, g6, g7, g8, g9, g10, g11, g12, g13⟩ := h10 d hd'
      obtain ⟨m1, m2⟩ := mono (D - (d + 1)) (d + 1) (by omega)
      rw [psh_ne z, psh_ne z, psh_ne z, psh_ne (show d ≠ D + 1 by omega), psh_ne (show d ≠ D + 1 by omega), psh_ne (show d + 1 ≠ D + 1 by omega), psh_ne (show d + 1 ≠ D + 1 by omega), e65, e66, e69, k104, k105, k106, up_nk z, up_nk z, up_nk z, up_nk z, up_nk z, up_nk z]
      exact ⟨g1, g2, g3, g4, g5, g6, g7, g8, g9.fr (fun x hx => e68 x (by omega)), g10, g11, g12, g13.fr (fun x hx => k107 x (by rw [List.length_append, List.length_singleton] at hx; omega))⟩
end DL
