/-! the layings that the rules give -/
def yv (C H w k d h : Nat) (P : List Int32) : Nat := match evL (env d w H C h (ct C H k C h)) P [] with
  | some (x :: _) => (if (x - x / nI H * nI H) < 0 then (x - x / nI H * nI H) + nI H else (x - x / nI H * nI H)).toNatClampNeg
  | _ => 0
theorem yv_s {C H w k d h : Nat} {P : List Int32} (ev : EVP P 1) (h2 : 2 ≤ H) (h6 : H ≤ 6) : ∃ x, evL (env d w H C h (ct C H k C h)) P [] = some [x] ∧ fr x H (yv C H w k d h P) := by
  obtain ⟨st, a, b⟩ := ev (env d w H C h (ct C H k C h))
  match st, a, b with
  | [x], a, _ =>
    obtain ⟨v, hv⟩ := fr_ex x h2 h6
    have e : yv C H w k d h P = v := by
      unfold yv
      rw [a]
      show (if (x - x / nI H * nI H) < 0 then (x - x / nI H * nI H) + nI H else (x - x / nI H * nI H)).toNatClampNeg = v
      rw [hv.2.2]
      have := hv.1
      exact clN (by omega)
    exact ⟨x, a, by rw [e]; exact hv⟩
/-- the rules as the class holds them -/
def RSc (N : Nat) (R : Nat → List Int32) (A Kd Sd : Nat → Nat) (I : Nat → Nat → Int32) : Prop := N ≤ 8 ∧ A 0 = 0 ∧ ∀ d, d < N → Kd d < 3 ∧ Sd d < 2 ∧ A (d + 1) = A d + (R d).length ∧ A (d + 1) ≤ 500 ∧ EVP (R d) 1 ∧ I 65 d = nI (Kd d) ∧ I 66 d = nI (Sd d) ∧ I 69 d = nI (A (d + 1)) ∧ Row (I 68) (A d) (R d)
theorem RSc.fr {N : Nat} {R : Nat → List Int32} {A Kd Sd : Nat → Nat} {I I' : Nat → Nat → Int32} (h : RSc N R A Kd Sd I) (e65 : I' 65 = I 65) (e66 : I' 66 = I 66) (e69 : I' 69 = I 69) (e68 : I' 68 = I 68) : RSc N R A Kd Sd I' := by
  obtain ⟨a, b, c⟩ := h
  refine ⟨a, b, fun d hd => ?_⟩
  rw [e65, e66, e69, e68]
  exact c d hd
section F48
variable {C H N w : Nat} {R : Nat → List Int32} {A Kd Sd : Nat → Nat}
/-- what stands while the layings are worked -/
def S48 (C H N w : Nat) (R : Nat → List Int32) (A Kd Sd : Nat → Nat) (I : Nat → Nat → Int32) : Prop := DT C H I ∧ RSc N R A Kd Sd I ∧ I 79 5 = nI H ∧ I 79 8 = nI N ∧ (∀ d, d < N → I 80 d = nI (Kd d)) ∧ I 72 1 = nI w ∧ I 72 2 = nI H ∧ I 72 3 = nI C
theorem S48.fr {I I' : Nat → Nat → Int32} (h : S48 C H N w R A Kd Sd I) (f : Fr [72, 73, 82] I I') (e : ∀ j, j < 4 → j ≠ 0 → I' 72 j = I 72 j) : S48 C H N w R A Kd Sd I' := by
  obtain ⟨a, b, c, d, g, h1, h2, h3⟩ := h
  exact ⟨a.fr (by rw [f 74 (by decide)]) (by rw [f 74 (by decide)]) (f 75 (by decide)) (f 76 (by decide)) (f 77 (by decide)), b.fr (f 65 (by decide)) (f 66 (by decide)) (f 69 (by decide)) (f 68 (by decide)), by rw [f 79 (by decide)]; exact c, by rw [f 79 (by decide)]; exact d, fun x hx => by rw [f 80 (by decide)]; exact g x hx, by rw [e 1 (by decide) (by decide)]; exact h1, by rw [e 2 (by decide) (by decide)]; exact h2, by rw [e 3 (by decide) (by decide)]; exact h3⟩
theorem f48_in {d : Nat} (c1 : Int32 → (Nat → Nat → Int32) → Option (Nat → Nat → Int32)) (hc : CH C H) (hd : d < N) : ∀ (j h n : Nat) (I : Nat → Nat → Int32), h + j = H → j < n → S48 C H N w R A Kd Sd I → I 72 0 = nI d → ∃ I', fx (fun _ _ _ => none) (bd_48_2 c1) n (nI d) (nI h) I = c1 (nI (d + 1)) I' ∧ (∀ h', h ≤ h' → h' < H → I' 82 (d * 6 + h') = nI (yv C H w (Kd d) d h' (R d))) ∧ (∀ i, i < d * 6 + h ∨ d * 6 + H ≤ i → I' 82 i = I 82 i) ∧ Fr [72, 73, 82] I I' ∧ ∀ j, j < 4 → I' 72 j = I 72 j := by
  obtain ⟨c1', c2', c3', c4'⟩ := id hc
  intro j
  induction j with
  | zero =>
    intro h n I e hn hS h0
    cases n with
    | zero => omega
    | succ n =>
      obtain rfl : h = H := by omega
      have one : nI d + (1 : Int32) = nI (d + 1) := addN d 1
      refine ⟨I, ?_, fun h' a b => by omega, fun _ _ => rfl, Fr.refl _ _, fun _ _ => rfl⟩
      rw [fx_s, bd_48_2, hS.2.2.1, if_neg (Int32.lt_irrefl (a := nI h)), one]
  | succ j ih =>
    intro h n I e hn hS h0
    cases n with
    | zero => omega
    | succ n =>
      have hh : h < H := by omega
      obtain ⟨s1, s2, s3, s4, s5, s6, s7, s8⟩ := id hS
      have n8 := s2.1
      obtain ⟨k3, _, a1, a2, ev, _, _, e69, row⟩ := s2.2.2 d hd
      have oh : nI h + (1 : Int32) = nI (h + 1) := addN h 1
      obtain ⟨x, ex, fx'⟩ := yv_s (C := C) (w := w) (k := Kd d) (d := d) (h := h) ev c1' c2'
      have i4 : ((-1) : Int32) - ((-5) : Int32) = nI 4 := rfl
      have i5 : ((-1) : Int32) - ((-6) : Int32) = nI 5 := rfl
      have f1 : Fr [72, 73, 82] I (up (up I 72 4 (nI h)) 72 5 (nI (ct C H (Kd d) C h))) := ((Fr.refl _ _).up (by decide)).up (by decide)
      have e42 : f_42 ((-5) : Int32) (nI h) I = some (up I 72 4 (nI h)) := by rw [f_42, i4, puN (by decide) (by decide)]
      have e9 : f_9 (atf ((up I 72 4 (nI h)) 80) 8 (nI d)) (nI h) (up I 72 4 (nI h)) = some (nI (ct C H (Kd d) C h)) := by
        have a80 : atf ((up I 72 4 (nI h)) 80) 8 (nI d) = nI (Kd d) := by rw [atN (by omega) (by decide), up_ne (by decide)]; exact s5 d hd
        rw [a80, f_9, show (6 : Int32) = nI 6 from rfl, mulN, addN, atN (by omega) (by decide), up_ne (by decide), s1.2.2.2.2 _ _ k3 hh]
      have e42b : f_42 ((-6) : Int32) (nI (ct C H (Kd d) C h)) (up I 72 4 (nI h)) = some (up (up I 72 4 (nI h)) 72 5 (nI (ct C H (Kd d) C h))) := by rw [f_42, i5, puN (by decide) (by decide)]
      generalize hI2 : up (up I 72 4 (nI h)) 72 5 (nI (ct C H (Kd d) C h)) = I2 at f1 e42b
      have v72 : ∀ j, j < 4 → I2 72 j = I 72 j := fun j hj => by rw [← hI2, up_nk (by omega), up_nk (by omega)]
      have hv : ∀ j, j < 6 → I2 72 j = env d w H C h (ct C H (Kd d) C h) (-1 - nI j) := fun j hj => by
        have : j = 0 ∨ j = 1 ∨ j = 2 ∨ j = 3 ∨ j = 4 ∨ j = 5 := by omega
        rcases this with rfl | rfl | rfl | rfl | rfl | rfl
        · rw [v72 0 (by decide), h0]; rfl
        · rw [v72 1 (by decide), s6]; rfl
        · rw [v72 2 (by decide), s7]; rfl
        · rw [v72 3 (by decide), s8]; rfl
        · rw [← hI2, up_nk (by decide), up_at]; rfl
        · rw [← hI2, up_at]; rfl
      obtain ⟨I3, g1, g2⟩ := f43_s (v := env d w H C h (ct C H (Kd d) C h)) (d := d) (en := A (d + 1)) (a := A d) (P := R d) (I := I2) (by omega) a2 a1.symm (by rw [f1 69 (by decide)]; exact e69) ⟨fun z => by rw [z]; exact s2.2.1, fun z => by
        rw [f1 69 (by decide)]
        obtain ⟨_, _, _, _, _, _, _, e, _⟩ := s2.2.2 (d - 1) (by omega)
        rw [e, show d - 1 + 1 = d by omega]⟩ (by rw [f1 68 (by decide)]; exact row) hv ex
      have f3 : Fr [72, 73, 82] I (up I3 82 (d * 6 + h) (nI (yv C H w (Kd d) d h (R d)))) := (f1.trans (g2.mono (by decide))).up (by decide)
      have e72 : ∀ j, j < 4 → (up I3 82 (d * 6 + h) (nI (yv C H w (Kd d) d h (R d)))) 72 j = I 72 j := fun j hj => by rw [up_ne (by decide), g2 72 (by decide)]; exact v72 j hj
      obtain ⟨I', t1, t2, t3, t4, t5⟩ := ih (h + 1) n (up I3 82 (d * 6 + h) (nI (yv C H w (Kd d) d h (R d)))) (by omega) (by omega) (hS.fr f3 (fun j hj _ => e72 j hj)) (by rw [e72 0 (by decide)]; exact h0)
      refine ⟨I', ?_, fun h' q1 q2 => ?_, fun i hi => ?_, f3.trans t4, fun j hj => by rw [t5 j hj, e72 j hj]⟩
      · have i79 : I3 79 5 = nI H := by rw [g2 79 (by decide), f1 79 (by decide)]; exact s3
        rw [fx_s, bd_48_2, s3, if_pos ((ltN (by omega) (by omega)).mpr hh), e42, Option.bind_some, e9, Option.bind_some, e42b, Option.bind_some, g1, Option.bind_some]
        dsimp only
        rw [i79, fx'.2.1, Option.bind_some, show (6 : Int32) = nI 6 from rfl, mulN, addN, puN (by omega) (by decide), oh]
        exact t1
      · by_cases z : h' = h
        · rw [z, t3 (d * 6 + h) (Or.inl (by omega)), up_at]
        · exact t2 h' (by omega) q2
      · rw [t3 i (by omega), up_nk (by omega), g2 82 (by decide), ← hI2, up_ne (by decide), up_ne (by decide)]
theorem f48_out (hc : CH C H) : ∀ (j d n : Nat) (I : Nat → Nat → Int32), d + j = N → j < n → S48 C H N w R A Kd Sd I → ∃ I', fx (fun _ _ => none) bd_48_1 n (nI d) I = some I' ∧ (∀ d' h', d ≤ d' → d' < N → h' < H → I' 82 (d' * 6 + h') = nI (yv C H w (Kd d') d' h' (R d'))) ∧ (∀ i, i < d * 6 → I' 82 i = I 82 i) ∧ Fr [72, 73, 82] I I' := by
  obtain ⟨c1', c2', c3', c4'⟩ := id hc
  intro j
  induction j with
  | zero =>
    intro d n I e hn hS
    cases n with
    | zero => omega
    | succ n =>
      obtain rfl : d = N := by omega
      refine ⟨I, ?_, fun d' h' a b => by omega, fun _ _ => rfl, Fr.refl _ _⟩
      rw [fx_s, bd_48_1, hS.2.2.2.1, if_neg (Int32.lt_irrefl (a := nI d))]
  | succ j ih =>
    intro d n I e hn hS
    cases n with
    | zero => omega
    | succ n =>
      have hd : d < N := by omega
      have n8 := hS.2.1.1
      have i0 : ((-1) : Int32) - ((-1) : Int32) = nI 0 := rfl
      have e42 : f_42 ((-1) : Int32) (nI d) I = some (up I 72 0 (nI d)) := by rw [f_42, i0, puN (by decide) (by decide)]
      have f1 : Fr [72, 73, 82] I (up I 72 0 (nI d)) := (Fr.refl _ _).up (by decide)
      obtain ⟨I1, a1, a2, a3, a4, a5⟩ := f48_in (w := w) (R := R) (A := A) (Kd := Kd) (Sd := Sd) (fx (fun _ _ => none) bd_48_1 n) hc hd H 0 FU (up I 72 0 (nI d)) (by omega) (FU_big (by omega)) (hS.fr f1 (fun j _ h => by rw [up_nk h])) up_at
      have hS1 : S48 C H N w R A Kd Sd I1 := (hS.fr f1 (fun j _ h => by rw [up_nk h])).fr a4 (fun j hj _ => a5 j hj)
      obtain ⟨I', b1, b2, b3, b4⟩ := ih (d + 1) n I1 (by omega) (by omega) hS1
      refine ⟨I', ?_, fun d' h' q1 q2 q3 => ?_, fun i hi => ?_, (f1.trans a4).trans b4⟩
      · rw [fx_s, bd_48_1, hS.2.2.2.1, if_pos ((ltN (by omega) (by omega)).mpr hd), e42, Option.bind_some]
        have : lb_48_2 (fx (fun _ _ => none) bd_48_1 n) (nI d) (0 : Int32) (up I 72 0 (nI d)) = fx (fun _ _ => none) bd_48_1 n (nI (d + 1)) I1 := a1
        rw [this]
        exact b1
      · by_cases z : d' = d
        · rw [z, b3 _ (by omega)]
          exact a2 h' (by omega) q3
        · exact b2 d' h' (by omega) q2 q3
      · rw [b3 i (by omega), a3 i (Or.inl (by omega)), up_ne (by decide)]
/-- rules told -/
theorem f48_s {I : Nat → Nat → Int32} (hc : CH C H) (hD : DT C H I) (hR : RSc N R A Kd Sd I) (h4 : I 79 4 = nI C) (h5 : I 79 5 = nI H) (h7 : I 79 7 = nI w) (h8 : I 79 8 = nI N) : ∃ I', f_48 I = some I' ∧ (∀ d, d < N → I' 80 d = nI (Kd d) ∧ I' 81 d = nI (Sd d)) ∧ (∀ d h, d < N → h < H → I' 82 (d * 6 + h) = nI (yv C H w (Kd d) d h (R d))) ∧ Fr [72, 73, 79, 80, 81, 82] I I' ∧ I' 79 = up I 79 9 (nI N) 79 := by
  have i1 : ((-1) : Int32) - ((-2) : Int32) = nI 1 := rfl
  have i2 : ((-1) : Int32) - ((-3) : Int32) = nI 2 := rfl
  have i3 : ((-1) : Int32) - ((-4) : Int32) = nI 3 := rfl
  have n8 := hR.1
  have f1 : Fr [79, 80, 81] I (cpyf (cpyf (up I 79 9 (nI N)) 65 80 8) 66 81 8) := fun a ha => by
    have n79 : a ≠ 79 := fun z => ha (by rw [z]; decide)
    have n80 : a ≠ 80 := fun z => ha (by rw [z]; decide)
    have n81 : a ≠ 81 := fun z => ha (by rw [z]; decide)
    rw [cpyf_ne n81, cpyf_ne n80, up_ne n79]
  have e80 : ∀ j, j < 8 → (cpyf (cpyf (up I 79 9 (nI N)) 65 80 8) 66 81 8) 80 j = I 65 j := fun j hj => by rw [cpyf_ne (by decide), cpyf_at hj, up_ne (by decide)]
  have e81 : ∀ j, j < 8 → (cpyf (cpyf (up I 79 9 (nI N)) 65 80 8) 66 81 8) 81 j = I 66 j := fun j hj => by rw [cpyf_at hj, cpyf_ne (by decide), up_ne (by decide)]
  have e79 : (cpyf (cpyf (up I 79 9 (nI N)) 65 80 8) 66 81 8) 79 = up I 79 9 (nI N) 79 := by rw [cpyf_ne (by decide), cpyf_ne (by decide)]
  have hd : f_48 I = (f_42 ((-2) : Int32) ((cpyf (cpyf (up I 79 9 (nI N)) 65 80 8) 66 81 8) 79 7) (cpyf (cpyf (up I 79 9 (nI N)) 65 80 8) 66 81 8)).bind fun q4 => ((f_42 ((-3) : Int32) (q4 79 5) q4).bind fun q5 => ((f_42 ((-4) : Int32) (q5 79 4) q5).bind fun q6 => (lb_48_1 (0 : Int32) q6))) := by
    rw [f_48, h8]
  generalize cpyf (cpyf (up I 79 9 (nI N)) 65 80 8) 66 81 8 = I3 at f1 e80 e81 e79 hd
  have k7 : I3 79 7 = nI w := by rw [e79, up_nk (by decide)]; exact h7
  have k5 : I3 79 5 = nI H := by rw [e79, up_nk (by decide)]; exact h5
  have k4 : I3 79 4 = nI C := by rw [e79, up_nk (by decide)]; exact h4
  have k8 : I3 79 8 = nI N := by rw [e79, up_nk (by decide)]; exact h8
  have f2 : Fr [72, 73, 82] I3 (up (up (up I3 72 1 (nI w)) 72 2 (nI H)) 72 3 (nI C)) := (((Fr.refl _ _).up (by decide)).up (by decide)).up (by decide)
  have hd2 : f_48 I = lb_48_1 (0 : Int32) (up (up (up I3 72 1 (nI w)) 72 2 (nI H)) 72 3 (nI C)) := by
    rw [hd, k7, f_42, i1, puN (by decide) (by decide), Option.bind_some, up_ne (by decide), k5, f_42, i2, puN (by decide) (by decide), Option.bind_some, up_ne (by decide), up_ne (by decide), k4, f_42, i3, puN (by decide) (by decide), Option.bind_some]
  have hS : S48 C H N w R A Kd Sd (up (up (up I3 72 1 (nI w)) 72 2 (nI H)) 72 3 (nI C)) := by
    refine ⟨hD.fr (by rw [f2 74 (by decide), f1 74 (by decide)]) (by rw [f2 74 (by decide), f1 74 (by decide)]) (by rw [f2 75 (by decide), f1 75 (by decide)]) (by rw [f2 76 (by decide), f1 76 (by decide)]) (by rw [f2 77 (by decide), f1 77 (by decide)]), hR.fr (by rw [f2 65 (by decide), f1 65 (by decide)]) (by rw [f2 66 (by decide), f1 66 (by decide)]) (by rw [f2 69 (by decide), f1 69 (by decide)]) (by rw [f2 68 (by decide), f1 68 (by decide)]), by rw [f2 79 (by decide)]; exact k5, by rw [f2 79 (by decide)]; exact k8, fun d hd => ?_, ?_, ?_, ?_⟩
    · rw [f2 80 (by decide), e80 d (by omega)]
      exact (hR.2.2 d hd).2.2.2.2.2.1
    · rw [up_nk (by decide), up_nk (by decide), up_at]
    · rw [up_nk (by decide), up_at]
    · rw [up_at]
  obtain ⟨I', t1, t2, t3, t4⟩ := f48_out hc N 0 FU _ (by omega) (FU_big (by omega)) hS
  refine ⟨I', by rw [hd2]; exact t1, fun d hd => ⟨?_, ?_⟩, fun d h hd hh => t2 d h (Nat.zero_le _) hd hh, fun a ha => ?_, ?_⟩
  · rw [t4 80 (by decide), f2 80 (by decide), e80 d (by omega)]
    exact (hR.2.2 d hd).2.2.2.2.2.1
  · rw [t4 81 (by decide), f2 81 (by decide), e81 d (by omega)]
    exact (hR.2.2 d hd).2.2.2.2.2.2.1
  · have n3 : a ∉ [72, 73, 82] := fun z => ha (by revert z; simp; omega)
    have n4 : a ∉ [79, 80, 81] := fun z => ha (by revert z; simp; omega)
    rw [t4 a n3, f2 a n3, f1 a n4]
  · rw [t4 79 (by decide), f2 79 (by decide), e79]
end F48
/-- none told -/
theorem f49_s {H : Nat} {I : Nat → Nat → Int32} (h6 : H ≤ 6) (h5 : I 79 5 = nI H) : ∃ I', f_49 I = some I' ∧ I' 80 0 = nI 0 ∧ I' 81 0 = nI 1 ∧ (∀ h, h < H → I' 82 h = nI (H / 2)) ∧ Fr [79, 80, 81, 82] I I' ∧ I' 79 = up I 79 9 (nI 1) 79 := by
  have loop : ∀ (j h n : Nat) (I : Nat → Nat → Int32), h + j = H → j < n → I 79 5 = nI H → ∃ I', fx (fun _ _ => none) bd_49_1 n (nI h) I = some I' ∧ (∀ h', h ≤ h' → h' < H → I' 82 h' = nI (H / 2)) ∧ (∀ i, i < h → I' 82 i = I 82 i) ∧ Fr [82] I I' := by
    intro j
    induction j with
    | zero =>
      intro h n I e hn h5
      cases n with
      | zero => omega
      | succ n =>
        obtain rfl : h = H := by omega
        refine ⟨I, ?_, fun h' a b => by omega, fun _ _ => rfl, Fr.refl _ _⟩
        rw [fx_s, bd_49_1, h5, if_neg (Int32.lt_irrefl (a := nI h))]
    | succ j ih =>
      intro h n I e hn h5
      cases n with
      | zero => omega
      | succ n =>
        have oh : nI h + (1 : Int32) = nI (h + 1) := addN h 1
        have dv : nI H / (2 : Int32) = nI (H / 2) := divN (b := 2) (by omega) (by decide) (by decide)
        obtain ⟨I', t1, t2, t3, t4⟩ := ih (h + 1) n (up I 82 h (nI (H / 2))) (by omega) (by omega) (by rw [up_ne (by decide)]; exact h5)
        refine ⟨I', ?_, fun h' a b => ?_, fun i hi => ?_, ((Fr.refl _ _).up (by decide)).trans t4⟩
        · rw [fx_s, bd_49_1, h5, if_pos ((ltN (by omega) (by omega)).mpr (by omega)), dv]
          dsimp only
          rw [puN (by omega) (by decide), oh]
          exact t1
        · by_cases z : h' = h
          · rw [z, t3 h (by omega), up_at]
          · exact t2 h' (by omega) b
        · rw [t3 i (by omega), up_nk (by omega)]
  obtain ⟨I', t1, t2, t3, t4⟩ := loop H 0 FU (up (up (up I 79 9 (nI 1)) 80 0 (nI 0)) 81 0 (nI 1)) (by omega) (FU_big (by omega)) (by rw [up_ne (by decide), up_ne (by decide), up_nk (by decide)]; exact h5)
  refine ⟨I', ?_, ?_, ?_, fun h hh => t2 h (Nat.zero_le _) hh, ((((Fr.refl _ _).up (by decide)).up (by decide)).up (by decide)).trans (t4.mono (by decide)), ?_⟩
  · have p0 : ∀ (J : Nat → Nat → Int32) (b : Nat) (v : Int32), putf J b 8 (0 : Int32) v = up J b 0 v := fun J b v => puN (a := 0) (by decide) (by decide)
    rw [f_49]
    try dsimp only
    rw [p0, p0]
    exact t1
  · rw [t4 80 (by decide), up_ne (by decide), up_at]
  · rw [t4 81 (by decide), up_at]
  · rw [t4 79 (by decide), up_ne (by decide), up_ne (by decide)]
