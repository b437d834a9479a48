/-! the class takes a setting over -/
section F50
variable {C H M : Nat} {K S : Nat → Nat} {Y : Nat → Nat → Nat}
def S50 (C H M : Nat) (K S : Nat → Nat) (Y : Nat → Nat → Nat) (I : Nat → Nat → Int32) : Prop := DT C H I ∧ M ≤ 8 ∧ I 79 4 = nI C ∧ I 79 5 = nI H ∧ I 79 9 = nI M ∧ (∀ d, d < M → K d < 3 ∧ S d < 2 ∧ I 80 d = nI (K d) ∧ I 81 d = nI (S d)) ∧ ∀ d h, d < M → h < H → Y d h < H ∧ I 82 (d * 6 + h) = nI (Y d h)
theorem S50.fr {I I' : Nat → Nat → Int32} (h : S50 C H M K S Y I) (f : Fr [74, 78, 83] I I') (hD : DT C H I') : S50 C H M K S Y I' := by
  obtain ⟨a, b, c, d, e, g, k⟩ := h
  exact ⟨hD, b, by rw [f 79 (by decide)]; exact c, by rw [f 79 (by decide)]; exact d, by rw [f 79 (by decide)]; exact e, fun x hx => by rw [f 80 (by decide), f 81 (by decide)]; exact g x hx, fun x y hx hy => by rw [f 82 (by decide)]; exact k x y hx hy⟩
theorem f50_s {d : Nat} {I : Nat → Nat → Int32} (hc : CH C H) (hS : S50 C H M K S Y I) (hd : d < M) : ∃ I', f_50 (nI d) I = some I' ∧ (∀ p, p < C → I' 83 (d * 60 + p) = nI (fw C H (K d) (S d) (Y d) p)) ∧ (∀ i, i < d * 60 ∨ d * 60 + 60 ≤ i → I' 83 i = I 83 i) ∧ Fr [74, 78, 83] I I' ∧ DT C H I' := by
  obtain ⟨q1, q2, q3, q4⟩ := id hc
  obtain ⟨s1, s2, s3, s4, s5, s6, s7⟩ := id hS
  obtain ⟨k3, y2, e80, e81⟩ := s6 d hd
  have e51 : f_51 (nI d) I = some (nI (K d)) := by rw [f_51, s5, f125N (by omega) (by omega) (by omega), Option.bind_some, Nat.mod_eq_of_lt hd, atN (by omega) (by decide), e80]
  have e52 : f_52 (nI d) I = some (nI (S d)) := by rw [f_52, s5, f125N (by omega) (by omega) (by omega), Option.bind_some, Nat.mod_eq_of_lt hd, atN (by omega) (by decide), e81]
  obtain ⟨I1, a1, a2, a3⟩ := f3_s (k := K d) (s := S d) s1
  have hS1 : S50 C H M K S Y I1 := hS.fr (a3.mono (by decide)) a2.1
  have loop2 : ∀ (j p n : Nat) (J : Nat → Nat → Int32), p + j = C → j < n → S50 C H M K S Y J → DK C H (K d) (S d) J → SS H (fun h => bef (ct C H (K d) C) (ord h h (Y d h) H) h) J → ∃ J', fx (fun _ _ _ => none) bd_50_3 n (nI d) (nI p) J = some J' ∧ (∀ p', p ≤ p' → p' < C → J' 83 (d * 60 + p') = nI (fw C H (K d) (S d) (Y d) p')) ∧ (∀ i, i < d * 60 + p ∨ d * 60 + 60 ≤ i → J' 83 i = J 83 i) ∧ Fr [83] J J' := by
    intro j
    induction j with
    | zero =>
      intro p n J e hn hJ hK hg
      cases n with
      | zero => omega
      | succ n =>
        obtain rfl : p = C := by omega
        refine ⟨J, ?_, fun p' a b => by omega, fun _ _ => rfl, Fr.refl _ _⟩
        rw [fx_s, bd_50_3, hJ.2.2.1, if_neg (Int32.lt_irrefl (a := nI p))]
    | succ j ih =>
      intro p n J e hn hJ hK hg
      cases n with
      | zero => omega
      | succ n =>
        have hp' : p < C := by omega
        have op : nI p + (1 : Int32) = nI (p + 1) := addN p 1
        have g10 := f10_s hc k3 y2 hK hg hp'
        have ew : bef (ct C H (K d) C) (ord (hp C H (K d) p) (hp C H (K d) p) (Y d (hp C H (K d) p)) H) (hp C H (K d) p) + off C H (K d) (S d) p = fw C H (K d) (S d) (Y d) p := rfl
        try dsimp only at g10
        rw [ew] at g10
        have f1 : Fr [83] J (up J 83 (d * 60 + p) (nI (fw C H (K d) (S d) (Y d) p))) := (Fr.refl _ _).up (by decide)
        have hK1 : DK C H (K d) (S d) (up J 83 (d * 60 + p) (nI (fw C H (K d) (S d) (Y d) p))) := hK.fr f1 (by decide) (by decide) (by decide) (by decide)
        obtain ⟨J', t1, t2, t3, t4⟩ := ih (p + 1) n _ (by omega) (by omega) (hJ.fr (f1.mono (by decide)) hK1.1) hK1 (fun h hh => by rw [up_ne (by decide)]; exact hg h hh)
        refine ⟨J', ?_, fun p' a b => ?_, fun i hi => ?_, f1.trans t4⟩
        · rw [fx_s, bd_50_3, hJ.2.2.1, if_pos ((ltN (by omega) (by omega)).mpr hp'), g10, Option.bind_some]
          try dsimp only
          rw [show (60 : Int32) = nI 60 from rfl, mulN, addN, puN (by omega) (by decide), op]
          exact t1
        · by_cases z : p' = p
          · rw [z, t3 _ (Or.inl (by omega)), up_at]
          · exact t2 p' (by omega) b
        · rw [t3 i (by omega), up_nk (by omega)]
  have loop1 : ∀ (j h n : Nat) (J : Nat → Nat → Int32), h + j = H → j < n → S50 C H M K S Y J → DK C H (K d) (S d) J → (∀ h', h' < h → J 78 h' = nI (bef (ct C H (K d) C) (ord h' h' (Y d h') H) h')) → ∃ J', fx (fun _ _ _ => none) bd_50_1 n (nI d) (nI h) J = lb_50_3 (nI d) (0 : Int32) J' ∧ S50 C H M K S Y J' ∧ DK C H (K d) (S d) J' ∧ SS H (fun h => bef (ct C H (K d) C) (ord h h (Y d h) H) h) J' ∧ Fr [78] J J' := by
    intro j
    induction j with
    | zero =>
      intro h n J e hn hJ hK hg
      cases n with
      | zero => omega
      | succ n =>
        obtain rfl : h = H := by omega
        refine ⟨J, ?_, hJ, hK, hg, Fr.refl _ _⟩
        rw [fx_s, bd_50_1, hJ.2.2.2.1, if_neg (Int32.lt_irrefl (a := nI h))]
    | succ j ih =>
      intro h n J e hn hJ hK hg
      cases n with
      | zero => omega
      | succ n =>
        have hh : h < H := by omega
        have oh : nI h + (1 : Int32) = nI (h + 1) := addN h 1
        obtain ⟨yl, y82⟩ := hJ.2.2.2.2.2.2 d h hd hh
        have e53 : f_53 (nI d) (nI h) J = some (nI (Y d h)) := by
          rw [f_53, hJ.2.2.2.2.1, f125N (by omega) (by omega) (by omega), Option.bind_some, Nat.mod_eq_of_lt hd, show (6 : Int32) = nI 6 from rfl, mulN, addN, atN (by omega) (by decide), y82]
        have e7 := f7_s hc k3 hh yl hK
        have f1 : Fr [78] J (up J 78 h (nI (bef (ct C H (K d) C) (ord h h (Y d h) H) h))) := (Fr.refl _ _).up (by decide)
        have hK1 : DK C H (K d) (S d) (up J 78 h (nI (bef (ct C H (K d) C) (ord h h (Y d h) H) h))) := hK.fr f1 (by decide) (by decide) (by decide) (by decide)
        obtain ⟨J', t1, t2, t3, t4, t5⟩ := ih (h + 1) n _ (by omega) (by omega) (hJ.fr (f1.mono (by decide)) hK1.1) hK1 (fun h' hh' => by
          by_cases z : h' = h
          · rw [z, up_at]
          · rw [up_nk z]; exact hg h' (by omega))
        refine ⟨J', ?_, t2, t3, t4, f1.trans t5⟩
        rw [fx_s, bd_50_1, hJ.2.2.2.1, if_pos ((ltN (by omega) (by omega)).mpr hh), e53, Option.bind_some, e7, Option.bind_some, oh]
        exact t1
  obtain ⟨I2, b1, b2, b3, b4, b5⟩ := loop1 H 0 FU I1 (by omega) (FU_big (by omega)) hS1 a2 (fun h' hh' => absurd hh' (Nat.not_lt_zero _))
  obtain ⟨I3, g1, g2, g3, g4⟩ := loop2 C 0 FU I2 (by omega) (FU_big (by omega)) b2 b3 b4
  have fA : Fr [74, 78, 83] I I3 := ((a3.mono (by decide)).trans (b5.mono (by decide))).trans (g4.mono (by decide))
  refine ⟨I3, ?_, fun p hp' => g2 p (Nat.zero_le _) hp', fun i hi => ?_, fA, ?_⟩
  · rw [f_50, e51, Option.bind_some, e52, Option.bind_some, a1, Option.bind_some]
    have e1 : lb_50_1 (nI d) (0 : Int32) I1 = lb_50_3 (nI d) (0 : Int32) I2 := b1
    rw [e1]
    exact g1
  · rw [g3 i (by omega), b5 83 (by decide), a3 83 (by decide)]
  · exact (b3.fr g4 (by decide) (by decide) (by decide) (by decide)).1
theorem f47_l (hc : CH C H) : ∀ (j d n : Nat) (I : Nat → Nat → Int32), d + j = M → j < n → S50 C H M K S Y I → (∀ d' p, d' < d → p < C → I 83 (d' * 60 + p) = nI (fw C H (K d') (S d') (Y d') p)) → ∃ I', fx (fun _ _ => none) bd_47_3 n (nI d) I = some I' ∧ S50 C H M K S Y I' ∧ (∀ d' p, d' < M → p < C → I' 83 (d' * 60 + p) = nI (fw C H (K d') (S d') (Y d') p)) ∧ Fr [74, 78, 83] I I' := by
  obtain ⟨q1, q2, q3, q4⟩ := id hc
  intro j
  induction j with
  | zero =>
    intro d n I e hn hS h83
    cases n with
    | zero => omega
    | succ n =>
      obtain rfl : d = M := by omega
      refine ⟨I, ?_, hS, h83, Fr.refl _ _⟩
      rw [fx_s, bd_47_3, hS.2.2.2.2.1, if_neg (Int32.lt_irrefl (a := nI d))]
  | succ j ih =>
    intro d n I e hn hS h83
    cases n with
    | zero => omega
    | succ n =>
      have hd : d < M := by omega
      have m8 := hS.2.1
      have od : nI d + (1 : Int32) = nI (d + 1) := addN d 1
      obtain ⟨I1, a1, a2, a3, a4, a5⟩ := f50_s hc hS hd
      obtain ⟨I', t1, t2, t3, t4⟩ := ih (d + 1) n I1 (by omega) (by omega) (hS.fr a4 a5) (fun d' p hd' hp' => by
        by_cases z : d' = d
        · rw [z]; exact a2 p hp'
        · rw [a3 _ (Or.inl (by omega))]; exact h83 d' p (by omega) hp')
      refine ⟨I', ?_, t2, t3, a4.trans t4⟩
      rw [fx_s, bd_47_3, hS.2.2.2.2.1, if_pos ((ltN (by omega) (by omega)).mpr hd), a1, Option.bind_some, od]
      exact t1
end F50
/-- the class's part of what is told -/
def SetC (C H N M w : Nat) (K S : Nat → Nat) (Y : Nat → Nat → Nat) (I : Nat → Nat → Int32) : Prop := DT C H I ∧ (I 79 4 = nI C ∧ I 79 5 = nI H ∧ I 79 6 = nI M ∧ I 79 7 = nI w ∧ I 79 8 = nI N ∧ I 79 9 = nI (max N 1)) ∧ (∀ d, d < max N 1 → K d < 3 ∧ S d < 2 ∧ I 80 d = nI (K d) ∧ I 81 d = nI (S d)) ∧ (∀ d h, d < max N 1 → h < H → Y d h < H ∧ I 82 (d * 6 + h) = nI (Y d h)) ∧ (∀ d p, d < max N 1 → p < C → I 83 (d * 60 + p) = nI (fw C H (K d) (S d) (Y d) p))
theorem f47_s {C H N M w : Nat} {R : Nat → List Int32} {A Kd Sd : Nat → Nat} {I : Nat → Nat → Int32} (hc : CH C H) (h0 : I 63 0 = nI C) (h1 : I 63 1 = nI H) (h2 : I 63 2 = nI M) (h3 : I 63 3 = nI w) (h6 : I 62 6 = nI N) (hR : RSc N R A Kd Sd I) : ∃ I' K S Y, f_47 I = some I' ∧ SetC C H N M w K S Y I' ∧ (N = 0 → K 0 = 0 ∧ S 0 = 1 ∧ ∀ h, h < H → Y 0 h = H / 2) ∧ (∀ d, d < N → K d = Kd d ∧ S d = Sd d ∧ ∀ h, h < H → Y d h = yv C H w (Kd d) d h (R d)) ∧ Fr [72, 73, 74, 75, 76, 77, 78, 79, 80, 81, 82, 83] I I' := by
  obtain ⟨q1, q2, q3, q4⟩ := id hc
  have n8 := hR.1
  have at4 : ∀ (J : Nat → Nat → Int32) (i : Nat), i < 4 → atf (J 63) 4 (nI i) = J 63 i := fun J i hi => atN hi (by decide)
  have u1 : Uk 79 [4, 5, 6, 7, 8] I (up (up (up (up (up I 79 4 (nI C)) 79 5 (nI H)) 79 6 (nI M)) 79 7 (nI w)) 79 8 (nI N)) := (((((Uk.refl _ _ _).up (by decide)).up (by decide)).up (by decide)).up (by decide)).up (by decide)
  have hd : f_47 I = ((f_1 ((up (up (up (up (up I 79 4 (nI C)) 79 5 (nI H)) 79 6 (nI M)) 79 7 (nI w)) 79 8 (nI N)) 79 4) ((up (up (up (up (up I 79 4 (nI C)) 79 5 (nI H)) 79 6 (nI M)) 79 7 (nI w)) 79 8 (nI N)) 79 5) (up (up (up (up (up I 79 4 (nI C)) 79 5 (nI H)) 79 6 (nI M)) 79 7 (nI w)) 79 8 (nI N))).bind fun q6 => (if 0 < (q6 79 8) then ((f_48 q6).bind fun q9 => (lb_47_2 q9)) else ((f_49 q6).bind fun q7 => (lb_47_2 q7)))) := by
    have a0 : ∀ (J : Nat → Nat → Int32), atf (J 63) 4 (0 : Int32) = J 63 0 := fun J => at4 J 0 (by decide)
    have a1 : ∀ (J : Nat → Nat → Int32), atf (J 63) 4 (1 : Int32) = J 63 1 := fun J => at4 J 1 (by decide)
    have a2 : ∀ (J : Nat → Nat → Int32), atf (J 63) 4 (2 : Int32) = J 63 2 := fun J => at4 J 2 (by decide)
    have a3 : ∀ (J : Nat → Nat → Int32), atf (J 63) 4 (3 : Int32) = J 63 3 := fun J => at4 J 3 (by decide)
    have e63 : ∀ (J : Nat → Nat → Int32) (k : Nat) (v : Int32), up J 79 k v 63 = J 63 := fun J k v => up_ne (by decide)
    have e62 : ∀ (J : Nat → Nat → Int32) (k : Nat) (v : Int32), up J 79 k v 62 = J 62 := fun J k v => up_ne (by decide)
    rw [f_47]
    simp only [a0, a1, a2, a3, e63, e62, h0, h1, h2, h3, h6]
  have p4 : (up (up (up (up (up I 79 4 (nI C)) 79 5 (nI H)) 79 6 (nI M)) 79 7 (nI w)) 79 8 (nI N)) 79 4 = nI C := by rw [up_nk (by decide), up_nk (by decide), up_nk (by decide), up_nk (by decide), up_at]
  have p5 : (up (up (up (up (up I 79 4 (nI C)) 79 5 (nI H)) 79 6 (nI M)) 79 7 (nI w)) 79 8 (nI N)) 79 5 = nI H := by rw [up_nk (by decide), up_nk (by decide), up_nk (by decide), up_at]
  have p6 : (up (up (up (up (up I 79 4 (nI C)) 79 5 (nI H)) 79 6 (nI M)) 79 7 (nI w)) 79 8 (nI N)) 79 6 = nI M := by rw [up_nk (by decide), up_nk (by decide), up_at]
  have p7 : (up (up (up (up (up I 79 4 (nI C)) 79 5 (nI H)) 79 6 (nI M)) 79 7 (nI w)) 79 8 (nI N)) 79 7 = nI w := by rw [up_nk (by decide), up_at]
  have p8 : (up (up (up (up (up I 79 4 (nI C)) 79 5 (nI H)) 79 6 (nI M)) 79 7 (nI w)) 79 8 (nI N)) 79 8 = nI N := by rw [up_at]
  rw [p4, p5] at hd
  generalize up (up (up (up (up I 79 4 (nI C)) 79 5 (nI H)) 79 6 (nI M)) 79 7 (nI w)) 79 8 (nI N) = I5 at u1 hd p4 p5 p6 p7 p8
  obtain ⟨I6, b1, b2, b3, b4⟩ := fit_s (I := I5) hc
  rw [b1, Option.bind_some] at hd
  have e79 := b3 79 (by decide)
  have hR6 : RSc N R A Kd Sd I6 := hR.fr (by rw [b3 65 (by decide), u1.1 65 (by decide)]) (by rw [b3 66 (by decide), u1.1 66 (by decide)]) (by rw [b3 69 (by decide), u1.1 69 (by decide)]) (by rw [b3 68 (by decide), u1.1 68 (by decide)])
  have fA : Fr [72, 73, 74, 75, 76, 77, 78, 79, 80, 81, 82, 83] I I6 := (u1.1.mono (by decide)).trans (b3.mono (by decide))
  by_cases z : 0 < N
  · have mx : max N 1 = N := by omega
    obtain ⟨I7, g1, g2, g3, g4, g5⟩ := f48_s (w := w) hc b2 hR6 (by rw [e79]; exact p4) (by rw [e79]; exact p5) (by rw [e79]; exact p7) (by rw [e79]; exact p8)
    have hS : S50 C H N Kd Sd (fun d h => yv C H w (Kd d) d h (R d)) I7 := by
      refine ⟨b2.fr (by rw [g4 74 (by decide)]) (by rw [g4 74 (by decide)]) (g4 75 (by decide)) (g4 76 (by decide)) (g4 77 (by decide)), n8, ?_, ?_, ?_, fun d hd => ?_, fun d h hd hh => ?_⟩
      · rw [g5, up_nk (by decide), e79]; exact p4
      · rw [g5, up_nk (by decide), e79]; exact p5
      · rw [g5, up_at]
      · obtain ⟨r1, r2, _⟩ := hR6.2.2 d hd
        exact ⟨r1, r2, (g2 d hd).1, (g2 d hd).2⟩
      · obtain ⟨_, _, _, _, ev, _⟩ := hR6.2.2 d hd
        obtain ⟨x, _, fx'⟩ := yv_s (C := C) (w := w) (k := Kd d) (d := d) (h := h) ev q1 q2
        exact ⟨fx'.1, g3 d h hd hh⟩
    obtain ⟨I8, t1, t2, t3, t4⟩ := f47_l hc N 0 FU I7 (by omega) (FU_big (by omega)) hS (fun d' p hd' _ => absurd hd' (Nat.not_lt_zero _))
    have k79 : I8 79 = up I6 79 9 (nI N) 79 := by rw [t4 79 (by decide), g5]
    refine ⟨I8, Kd, Sd, fun d h => yv C H w (Kd d) d h (R d), ?_, ⟨t2.1, ⟨t2.2.2.1, t2.2.2.2.1, ?_, ?_, ?_, by rw [mx]; exact t2.2.2.2.2.1⟩, by rw [mx]; exact t2.2.2.2.2.2.1, by rw [mx]; exact t2.2.2.2.2.2.2, by rw [mx]; exact t3⟩, fun y => by omega, fun d _ => ⟨rfl, rfl, fun h _ => rfl⟩, (fA.trans (g4.mono (by decide))).trans (t4.mono (by decide))⟩
    · have p : (0 : Int32) < I6 79 8 := by rw [e79, p8]; exact (ltN (a := 0) (by decide) (by omega)).mpr z
      rw [hd, if_pos p, g1, Option.bind_some]
      exact t1
    · rw [k79, up_nk (by decide), e79]; exact p6
    · rw [k79, up_nk (by decide), e79]; exact p7
    · rw [k79, up_nk (by decide), e79]; exact p8
  · have n0 : N = 0 := by omega
    have mx : max N 1 = 1 := by omega
    obtain ⟨I7, g1, g2, g3, g4, g5, g6⟩ := f49_s (I := I6) q2 (by rw [e79]; exact p5)
    have hS : S50 C H 1 (fun _ => 0) (fun _ => 1) (fun _ _ => H / 2) I7 := by
      refine ⟨b2.fr (by rw [g5 74 (by decide)]) (by rw [g5 74 (by decide)]) (g5 75 (by decide)) (g5 76 (by decide)) (g5 77 (by decide)), by decide, ?_, ?_, ?_, fun d hd => ?_, fun d h hd hh => ?_⟩
      · rw [g6, up_nk (by decide), e79]; exact p4
      · rw [g6, up_nk (by decide), e79]; exact p5
      · rw [g6, up_at]
      · obtain rfl : d = 0 := by omega
        exact ⟨by decide, by decide, g2, g3⟩
      · obtain rfl : d = 0 := by omega
        rw [Nat.zero_mul, Nat.zero_add]
        exact ⟨(show H / 2 < H by omega), g4 h hh⟩
    obtain ⟨I8, t1, t2, t3, t4⟩ := f47_l hc 1 0 FU I7 (by omega) (FU_big (by omega)) hS (fun d' p hd' _ => absurd hd' (Nat.not_lt_zero _))
    have k79 : I8 79 = up I6 79 9 (nI 1) 79 := by rw [t4 79 (by decide), g6]
    refine ⟨I8, fun _ => 0, fun _ => 1, fun _ _ => H / 2, ?_, ⟨t2.1, ⟨t2.2.2.1, t2.2.2.2.1, ?_, ?_, ?_, by rw [mx]; exact t2.2.2.2.2.1⟩, by rw [mx]; exact t2.2.2.2.2.2.1, by rw [mx]; exact t2.2.2.2.2.2.2, by rw [mx]; exact t3⟩, fun _ => ⟨rfl, rfl, fun _ _ => rfl⟩, fun d hd => by omega, (fA.trans (g5.mono (by decide))).trans (t4.mono (by decide))⟩
    · have p : ¬ (0 : Int32) < I6 79 8 := by rw [e79, p8, n0]; decide
      rw [hd, if_neg p, g1, Option.bind_some]
      exact t1
    · rw [k79, up_nk (by decide), e79]; exact p6
    · rw [k79, up_nk (by decide), e79]; exact p7
    · rw [k79, up_nk (by decide), e79]; exact p8
/-- a fresh table -/
theorem f60_s (I : Nat → Nat → Int32) : ∃ I', f_60 I = some I' ∧ (∀ p, p < 60 → I' 88 p = nI p ∧ I' 89 p = nI p ∧ I' 90 p = nI 0) ∧ I' 87 4 = nI 0 ∧ Fr [87, 88, 89, 90] I I' := by
  have loop : ∀ (j p n : Nat) (J : Nat → Nat → Int32), p + j = 60 → j < n → (∀ p', p' < p → J 88 p' = nI p') → ∃ J', fx (fun _ _ => none) bd_60_1 n (nI p) J = some (up (filf (cpyf J' 88 89 60) 90 60 (0 : Int32)) 87 4 (0 : Int32)) ∧ (∀ p', p' < 60 → J' 88 p' = nI p') ∧ Fr [88] J J' := by
    intro j
    induction j with
    | zero =>
      intro p n J e hn h
      cases n with
      | zero => omega
      | succ n =>
        obtain rfl : p = 60 := by omega
        refine ⟨J, ?_, h, Fr.refl _ _⟩
        rw [fx_s, bd_60_1, if_neg (Int32.lt_irrefl (a := nI 60))]
    | succ j ih =>
      intro p n J e hn h
      cases n with
      | zero => omega
      | succ n =>
        have op : nI p + (1 : Int32) = nI (p + 1) := addN p 1
        obtain ⟨J', t1, t2, t3⟩ := ih (p + 1) n (up J 88 p (nI p)) (by omega) (by omega) (fun p' hp' => by
          by_cases z : p' = p
          · rw [z, up_at]
          · rw [up_nk z]; exact h p' (by omega))
        refine ⟨J', ?_, t2, ((Fr.refl _ _).up (by decide)).trans t3⟩
        rw [fx_s, bd_60_1, if_pos ((ltN (by omega) (by decide)).mpr (by omega)), if_pos ((inN (by omega)).mpr (by omega)), clN (by omega)]
        try dsimp only
        rw [op]
        exact t1
  obtain ⟨J', t1, t2, t3⟩ := loop 60 0 FU I (by omega) (FU_big (by decide)) (fun p' hp' => absurd hp' (Nat.not_lt_zero _))
  refine ⟨_, t1, fun p hp' => ⟨?_, ?_, ?_⟩, up_at, fun a ha => ?_⟩
  · rw [up_ne (by decide), filf_ne (by decide), cpyf_ne (by decide)]; exact t2 p hp'
  · rw [up_ne (by decide), filf_ne (by decide), cpyf_at hp']; exact t2 p hp'
  · rw [up_ne (by decide), filf_at hp']; rfl
  · rw [up_ne (fun z => ha (by rw [z]; decide)), filf_ne (fun z => ha (by rw [z]; decide)), cpyf_ne (fun z => ha (by rw [z]; decide)), t3 a (fun z => ha (by revert z; simp; omega))]
