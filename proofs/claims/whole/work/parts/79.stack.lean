/-! what waits, what is written: both yards' piles -/
def cc (k : Nat) : Int32 := [0, 0, 0, 0, 0, 0, 0, -7, -8, -9, -10, -11, -12, -13, -14, -15, -16].getD k 0
def prk (k : Nat) : Nat := [0, 0, 0, 0, 0, 0, 0, 1, 2, 3, 4, 4, 5, 5, 6, 6, 0].getD k 0
def mkk (k : Nat) : Nat := [0, 0, 0, 0, 0, 0, 0, 5, 4, 3, 6, 7, 8, 9, 10, 11, 14].getD k 0
theorem ccs : ∀ k, k < 17 → 7 ≤ k → f_36 (cc k) = some (nI (prk k)) ∧ prk k < 7 ∧ enc (cc k) = [nI (mkk k)] ∧ mkk k < 15 ∧ f_150 (nI (mkk k)) = some (nI (if k = 16 then 1 else 0)) ∧ (k ≠ 16 → f_151 (nI (mkk k)) = some (nI (prk k)) ∧ 0 < prk k) := by decide +kernel
/-- a pile in a row of cells, its top first in the list -/
def StkF (F : Nat → Int32) (f : Nat → Int32) : List Nat → Prop
  | [] => True
  | k :: Ws => f Ws.length = F k ∧ StkF F f Ws
theorem StkF.up {F : Nat → Int32} {I : Nat → Nat → Int32} {a y : Nat} {v : Int32} : ∀ {Ws : List Nat}, StkF F (I a) Ws → Ws.length ≤ y → StkF F (up I a y v a) Ws
  | [], _, _ => trivial
  | k :: Ws, h, hy => by
    rw [List.length_cons] at hy
    refine ⟨?_, StkF.up h.2 (by omega)⟩
    rw [up_nk (by omega)]
    exact h.1
def vld (Ws : List Nat) : Prop := ∀ k, k ∈ Ws → 7 ≤ k ∧ k < 17
theorem vld.tail {k : Nat} {Ws : List Nat} (h : vld (k :: Ws)) : vld Ws := fun x hx => h x (List.mem_cons_of_mem k hx)
theorem vld.head {k : Nat} {Ws : List Nat} (h : vld (k :: Ws)) : 7 ≤ k ∧ k < 17 := h k List.mem_cons_self
/-- those that go before a rank -/
def fls (p : Nat) : List Nat → List Nat × List Nat
  | [] => ([], [])
  | k :: Ws => if prk k < p then ([], k :: Ws) else (k :: (fls p Ws).1, (fls p Ws).2)
theorem fls_app (p : Nat) : ∀ Ws, (fls p Ws).1 ++ (fls p Ws).2 = Ws
  | [] => rfl
  | k :: Ws => by
    rw [fls]
    split
    · rfl
    · rw [List.cons_append, fls_app p Ws]
theorem Row.snoc {f : Nat → Int32} {a : Nat} {L : List Int32} {c : Int32} (h : Row f a L) (hc : f (a + L.length) = c) : Row f a (L ++ [c]) := fun i hi => by
  rw [List.length_append, List.length_singleton] at hi
  by_cases z : i = L.length
  · rw [z, hc, List.getD_eq_getElem?_getD, List.getElem?_append_right (Nat.le_refl _), Nat.sub_self]
    rfl
  · have hi' : i < L.length := by omega
    rw [h i hi', List.getD_eq_getElem?_getD, List.getD_eq_getElem?_getD, List.getElem?_append_left hi']
theorem Row.up {I : Nat → Nat → Int32} {b a y : Nat} {v : Int32} {L : List Int32} (h : Row (I b) a L) (hy : a + L.length ≤ y) : Row (up I b y v b) a L := fun i hi => by
  rw [up_nk (by omega)]
  exact h i hi
/-- the class's rule under way -/
def CSt (a0 : Nat) (P : List Int32) (Ws : List Nat) (I : Nat → Nat → Int32) : Prop := I 67 7 = nI (a0 + P.length) ∧ Row (I 68) a0 P ∧ I 67 8 = nI Ws.length ∧ StkF cc (I 70) Ws
def MSt (b0 : Nat) (P : List Int32) (Ws : List Nat) (I : Nat → Nat → Int32) : Prop := I 97 29 = nI (b0 + (encL P).length) ∧ Row (I 107) b0 (encL P) ∧ I 97 30 = nI Ws.length ∧ StkF (fun k => nI (mkk k)) (I 108) Ws
/-- all else stands -/
def Uc (y : Nat) (I I' : Nat → Nat → Int32) : Prop := Fr [67, 68, 70] I I' ∧ (∀ k, k ≠ 7 → k ≠ 8 → I' 67 k = I 67 k) ∧ ∀ x, x < y → I' 68 x = I 68 x
def Um (y : Nat) (I I' : Nat → Nat → Int32) : Prop := Fr [97, 107, 108] I I' ∧ (∀ k, k ≠ 29 → k ≠ 30 → I' 97 k = I 97 k) ∧ ∀ x, x < y → I' 107 x = I 107 x
theorem Uc.refl (y : Nat) (I : Nat → Nat → Int32) : Uc y I I := ⟨Fr.refl _ _, fun _ _ _ => rfl, fun _ _ => rfl⟩
theorem Um.refl (y : Nat) (I : Nat → Nat → Int32) : Um y I I := ⟨Fr.refl _ _, fun _ _ _ => rfl, fun _ _ => rfl⟩
theorem Uc.trans {y z : Nat} {I I' I'' : Nat → Nat → Int32} (h : Uc y I I') (h' : Uc z I' I'') (hz : y ≤ z) : Uc y I I'' := ⟨h.1.trans h'.1, fun k a b => (h'.2.1 k a b).trans (h.2.1 k a b), fun x hx => (h'.2.2 x (by omega)).trans (h.2.2 x hx)⟩
theorem Um.trans {y z : Nat} {I I' I'' : Nat → Nat → Int32} (h : Um y I I') (h' : Um z I' I'') (hz : y ≤ z) : Um y I I'' := ⟨h.1.trans h'.1, fun k a b => (h'.2.1 k a b).trans (h.2.1 k a b), fun x hx => (h'.2.2 x (by omega)).trans (h.2.2 x hx)⟩
section ST
variable {a0 b0 : Nat} {P : List Int32} {Ws : List Nat} {I : Nat → Nat → Int32}
theorem f39_s (c : Int32) (h : CSt a0 P Ws I) (hb : a0 + P.length < 500) : ∃ I', f_39 c I = some I' ∧ CSt a0 (P ++ [c]) Ws I' ∧ Uc (a0 + P.length) I I' := by
  obtain ⟨h1, h2, h3, h4⟩ := h
  have one : nI (a0 + P.length) + (1 : Int32) = nI (a0 + P.length + 1) := addN _ 1
  refine ⟨up (up I 68 (a0 + P.length) c) 67 7 (nI (a0 + P.length + 1)), ?_, ⟨?_, ?_, ?_, ?_⟩, ?_, fun k h7 h8 => ?_, fun x hx => ?_⟩
  · rw [f_39, h1, if_pos ((ltN (by omega) (by decide)).mpr hb), if_pos ((inN (by omega)).mpr hb), clN (by omega)]
    dsimp only
    rw [up_ne (by decide), h1, one]
    rfl
  · rw [up_at, List.length_append, List.length_singleton, Nat.add_assoc]
  · rw [up_ne (by decide)]
    exact (h2.up (Nat.le_refl _)).snoc up_at
  · rw [up_nk (by decide), up_ne (by decide)]; exact h3
  · rw [up_ne (by decide), up_ne (by decide)]; exact h4
  · exact ((Fr.refl _ _).up (by decide)).up (by decide)
  · rw [up_nk h7, up_ne (by decide)]
  · rw [up_ne (by decide), up_nk (by omega)]
theorem f149_s (c : Int32) {L : List Int32} {n : Nat} (h1 : I 97 29 = nI (b0 + L.length)) (h2 : Row (I 107) b0 L) (hb : b0 + L.length < 1300) : ∃ I', f_149 c I = some I' ∧ I' 97 29 = nI (b0 + (L ++ [c]).length) ∧ Row (I' 107) b0 (L ++ [c]) ∧ Fr [97, 107] I I' ∧ (∀ k, k ≠ 29 → I' 97 k = I 97 k) ∧ (∀ x, x < b0 + L.length → I' 107 x = I 107 x) := by
  have one : nI (b0 + L.length) + (1 : Int32) = nI (b0 + L.length + 1) := addN _ 1
  refine ⟨up (up I 107 (b0 + L.length) c) 97 29 (nI (b0 + L.length + 1)), ?_, ?_, ?_, ?_, fun k h7 => ?_, fun x hx => ?_⟩
  · rw [f_149, h1, if_pos ((inN (by omega)).mpr hb), clN (by omega)]
    dsimp only
    rw [up_ne (by decide), h1, one]
  · rw [up_at, List.length_append, List.length_singleton, Nat.add_assoc]
  · rw [up_ne (by decide)]
    exact (h2.up (Nat.le_refl _)).snoc up_at
  · exact ((Fr.refl _ _).up (by decide)).up (by decide)
  · rw [up_nk h7, up_ne (by decide)]
  · rw [up_ne (by decide), up_nk (by omega)]
theorem f37_s {k : Nat} (h : CSt a0 P Ws I) (hb : Ws.length < 100) : ∃ I', f_37 (cc k) I = some I' ∧ CSt a0 P (k :: Ws) I' ∧ Uc (a0 + P.length) I I' := by
  obtain ⟨h1, h2, h3, h4⟩ := h
  have one : nI Ws.length + (1 : Int32) = nI (Ws.length + 1) := addN _ 1
  refine ⟨up (up I 70 Ws.length (cc k)) 67 8 (nI (Ws.length + 1)), ?_, ⟨?_, ?_, ?_, ?_⟩, ?_, fun x h7 h8 => ?_, fun x hx => ?_⟩
  · rw [f_37, h3, if_pos ((ltN (by omega) (by decide)).mpr hb), if_pos ((inN (by omega)).mpr hb), clN (by omega)]
    dsimp only
    rw [up_ne (by decide), h3, one]
    rfl
  · rw [up_nk (by decide), up_ne (by decide)]; exact h1
  · rw [up_ne (by decide), up_ne (by decide)]; exact h2
  · rw [up_at, List.length_cons]
  · rw [up_ne (by decide)]
    exact ⟨up_at, h4.up (Nat.le_refl _)⟩
  · exact ((Fr.refl _ _).up (by decide)).up (by decide)
  · rw [up_nk h8, up_ne (by decide)]
  · rw [up_ne (by decide), up_ne (by decide)]
theorem f153_s {k : Nat} (h : MSt b0 P Ws I) (hb : Ws.length < 650) : ∃ I', f_153 (nI (mkk k)) I = some I' ∧ MSt b0 P (k :: Ws) I' ∧ Um (b0 + (encL P).length) I I' := by
  obtain ⟨h1, h2, h3, h4⟩ := h
  have one : nI Ws.length + (1 : Int32) = nI (Ws.length + 1) := addN _ 1
  refine ⟨up (up I 108 Ws.length (nI (mkk k))) 97 30 (nI (Ws.length + 1)), ?_, ⟨?_, ?_, ?_, ?_⟩, ?_, fun x h7 h8 => ?_, fun x hx => ?_⟩
  · rw [f_153, h3, if_pos ((inN (by omega)).mpr hb), clN (by omega)]
    dsimp only
    rw [up_ne (by decide), h3, one]
  · rw [up_nk (by decide), up_ne (by decide)]; exact h1
  · rw [up_ne (by decide), up_ne (by decide)]; exact h2
  · rw [up_at, List.length_cons]
  · rw [up_ne (by decide)]
    exact ⟨up_at, h4.up (Nat.le_refl _)⟩
  · exact ((Fr.refl _ _).up (by decide)).up (by decide)
  · rw [up_nk h8, up_ne (by decide)]
  · rw [up_ne (by decide), up_ne (by decide)]
theorem f38_s {p : Nat} (hp7 : p < 8) : ∀ (Ws : List Nat) (m : Nat) (P : List Int32) (I : Nat → Nat → Int32), vld Ws → Ws.length < m → Ws.length ≤ 100 → a0 + P.length + Ws.length ≤ 500 → CSt a0 P Ws I → ∃ I', fx (fun _ _ => none) bd_38_0 m (nI p) I = some I' ∧ CSt a0 (P ++ (fls p Ws).1.map cc) (fls p Ws).2 I' ∧ Uc (a0 + P.length) I I'
  | [], m, P, I, _, hm, _, _, h => by
    cases m with
    | zero => exact absurd hm (Nat.not_lt_zero _)
    | succ m =>
      refine ⟨I, ?_, by rw [fls, List.map_nil, List.append_nil]; exact h, Uc.refl _ _⟩
      rw [fx_s, bd_38_0, h.2.2.1, if_neg (show ¬ 0 < nI ([] : List Nat).length by decide)]
      rfl
  | k :: Ws, m, P, I, hv, hm, hl, hb, h => by
    cases m with
    | zero => exact absurd hm (Nat.not_lt_zero _)
    | succ m =>
      obtain ⟨h1, h2, h3, h4⟩ := h
      rw [List.length_cons] at hm hl hb h3
      obtain ⟨k7, k17⟩ := hv.head
      obtain ⟨g1, g2, _⟩ := ccs k k17 k7
      have sub : nI (Ws.length + 1) - (1 : Int32) = nI Ws.length := subN (a := Ws.length + 1) (b := 1) (by omega)
      have at1 : atf (I 70) 100 (nI Ws.length) = cc k := by rw [atN (by omega) (by decide)]; exact h4.1
      have pos : (0 : Int32) < nI (Ws.length + 1) := (ltN (a := 0) (by decide) (by omega)).mpr (by omega)
      rw [fls]
      by_cases q : prk k < p
      · rw [if_pos q]
        refine ⟨I, ?_, ?_, Uc.refl _ _⟩
        · rw [fx_s, bd_38_0, h3, if_pos pos, sub, at1, g1, Option.bind_some, if_pos ((ltN (by omega) (by omega)).mpr q)]
          rfl
        · rw [List.map_nil, List.append_nil]
          exact ⟨h1, h2, by rw [List.length_cons]; exact h3, h4⟩
      · rw [if_neg q]
        have c1 : CSt a0 P Ws (up I 67 8 (nI Ws.length)) := ⟨by rw [up_nk (by decide)]; exact h1, by rw [up_ne (by decide)]; exact h2, up_at, by rw [up_ne (by decide)]; exact h4.2⟩
        obtain ⟨I1, b1, b2, b3⟩ := f39_s (cc k) c1 (by omega)
        obtain ⟨I2, d1, d2, d3⟩ := f38_s hp7 Ws m (P ++ [cc k]) I1 hv.tail (by omega) (by omega) (by rw [List.length_append, List.length_singleton]; omega) b2
        refine ⟨I2, ?_, ?_, ?_⟩
        · have at2 : atf ((up I 67 8 (nI Ws.length)) 70) 100 ((up I 67 8 (nI Ws.length)) 67 8) = cc k := by
            rw [up_at, up_ne (by decide)]
            exact at1
          rw [fx_s, bd_38_0, h3, if_pos pos, sub, at1, g1, Option.bind_some, if_neg (fun z => q ((ltN (by omega) (by omega)).mp z))]
          dsimp only
          rw [at2, b1, Option.bind_some]
          exact d1
        · rw [List.append_assoc] at d2
          exact d2
        · have u1 : Uc (a0 + P.length) I (up I 67 8 (nI Ws.length)) := ⟨(Fr.refl _ _).up (by decide), fun x _ h8 => by rw [up_nk h8], fun x _ => by rw [up_ne (by decide)]⟩
          exact (u1.trans b3 (Nat.le_refl _)).trans d3 (by rw [List.length_append]; omega)
theorem f152_s {p q : Nat} (hq7 : q < 8) (hpq : ∀ k, k < 17 → 7 ≤ k → k ≠ 16 → (prk k < q ↔ prk k < p)) (hp1 : 1 ≤ p) : ∀ (Ws : List Nat) (m : Nat) (P : List Int32) (I : Nat → Nat → Int32), vld Ws → Ws.length < m → Ws.length ≤ 650 → b0 + (encL P).length + Ws.length ≤ 1300 → MSt b0 P Ws I → ∃ I', fx (fun _ _ => none) bd_152_0 m (nI q) I = some I' ∧ MSt b0 (P ++ (fls p Ws).1.map cc) (fls p Ws).2 I' ∧ Um (b0 + (encL P).length) I I'
  | [], m, P, I, _, hm, _, _, h => by
    cases m with
    | zero => exact absurd hm (Nat.not_lt_zero _)
    | succ m =>
      refine ⟨I, ?_, by rw [fls, List.map_nil, List.append_nil]; exact h, Um.refl _ _⟩
      rw [fx_s, bd_152_0, h.2.2.1, if_neg (show ¬ 0 < nI ([] : List Nat).length by decide)]
      rfl
  | k :: Ws, m, P, I, hv, hm, hl, hb, h => by
    cases m with
    | zero => exact absurd hm (Nat.not_lt_zero _)
    | succ m =>
      obtain ⟨h1, h2, h3, h4⟩ := h
      rw [List.length_cons] at hm hl hb h3
      obtain ⟨k7, k17⟩ := hv.head
      obtain ⟨_, g2, g3, g4, g5, g6⟩ := ccs k k17 k7
      have sub : nI (Ws.length + 1) - (1 : Int32) = nI Ws.length := subN (a := Ws.length + 1) (b := 1) (by omega)
      have at0 : I 108 Ws.length = nI (mkk k) := h4.1
      have pos : (0 : Int32) < nI (Ws.length + 1) := (ltN (a := 0) (by decide) (by omega)).mpr (by omega)
      have inW : ex_in (nI Ws.length) 650 := (inN (by omega)).mpr (by omega)
      have cl : (nI Ws.length).toNatClampNeg = Ws.length := clN (by omega)
      have at1 : I 108 (nI Ws.length).toNatClampNeg = nI (mkk k) := by rw [cl]; exact at0
      have same : MSt b0 (P ++ ([] : List Nat).map cc) (k :: Ws) I := by
        rw [List.map_nil, List.append_nil]
        exact ⟨h1, h2, by rw [List.length_cons]; exact h3, h4⟩
      rw [fls]
      by_cases q16 : k = 16
      · have pk : prk k < p := by rw [q16]; exact hp1
        rw [if_pos pk]
        refine ⟨I, ?_, same, Um.refl _ _⟩
        rw [fx_s, bd_152_0, h3, if_pos pos, sub, if_pos inW, at1, g5, Option.bind_some, if_pos q16, if_neg (show ¬ nI 1 = 0 by decide)]
        rfl
      · obtain ⟨g7, g8⟩ := g6 q16
        have e := hpq k k17 k7 q16
        by_cases y : prk k < p
        · rw [if_pos y]
          refine ⟨I, ?_, same, Um.refl _ _⟩
          rw [fx_s, bd_152_0, h3, if_pos pos, sub, if_pos inW, at1, g5, Option.bind_some, if_neg q16, if_pos (show nI 0 = 0 from rfl), if_pos inW, g7, Option.bind_some, if_pos ((ltN (by omega) (by omega)).mpr (e.mpr y))]
          rfl
        · rw [if_neg y]
          have hb1 : b0 + (encL P).length < 1300 := by omega
          obtain ⟨I1, b1, b2, b3, b4, b5, b6⟩ := f149_s (n := 0) (I := up I 97 30 (nI Ws.length)) (nI (mkk k)) (L := encL P) (b0 := b0) (by rw [up_nk (by decide)]; exact h1) (by rw [up_ne (by decide)]; exact h2) hb1
          have en : encL (P ++ [cc k]) = encL P ++ [nI (mkk k)] := by
            rw [encL_app, encL, g3, encL, List.append_nil]
          obtain ⟨I2, d1, d2, d3⟩ := f152_s hq7 hpq hp1 Ws m (P ++ [cc k]) I1 hv.tail (by omega) (by omega) (by rw [en, List.length_append, List.length_singleton]; omega) ⟨by rw [en]; exact b2, by rw [en]; exact b3, by rw [b5 30 (by decide), up_at], by rw [b4 108 (by decide), up_ne (by decide)]; exact h4.2⟩
          refine ⟨I2, ?_, ?_, ?_⟩
          · have at2 : (up I 97 30 (nI Ws.length)) 108 ((up I 97 30 (nI Ws.length)) 97 30).toNatClampNeg = nI (mkk k) := by
              rw [up_at, cl, up_ne (by decide)]
              exact at0
            have in2 : ex_in ((up I 97 30 (nI Ws.length)) 97 30) 650 := by rw [up_at]; exact inW
            rw [fx_s, bd_152_0, h3, if_pos pos, sub, if_pos inW, at1, g5, Option.bind_some, if_neg q16, if_pos (show nI 0 = 0 from rfl), if_pos inW, g7, Option.bind_some, if_neg (fun z => y (e.mp ((ltN (by omega) (by omega)).mp z)))]
            dsimp only
            rw [if_pos in2, at2, b1, Option.bind_some]
            exact d1
          · rw [List.append_assoc] at d2
            exact d2
          · have u1 : Um (b0 + (encL P).length) I I1 := ⟨((Fr.refl _ _).up (by decide)).trans (b4.mono (by decide)), fun x h29 h30 => by rw [b5 x h29, up_nk h30], fun x hx => by rw [b6 x hx, up_ne (by decide)]⟩
            exact u1.trans d3 (by rw [en, List.length_append]; omega)
end ST
