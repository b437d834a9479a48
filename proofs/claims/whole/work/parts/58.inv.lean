/-! What holds between two calls -/
def Old (Z I : Nat → Nat → Int32) : Prop := ∀ a, a < 58 → I a = Z a
def TapeP (L : Nat) (I : Nat → Nat → Int32) : Prop := L ≤ 500 ∧ I 60 1 = nI L ∧ I 97 11 = nI L ∧ ∀ i, i < L → ∃ b, b < 256 ∧ I 102 i = nI b ∧ (I 61 i &&& 255) = nI b
def KeptP (I : Nat → Nat → Int32) : Prop := (I 84 6 = nI 0 ∧ I 97 48 = -1) ∨ ∃ n v, 1 ≤ n ∧ n ≤ 5 ∧ I 84 6 = nI n ∧ I 97 48 = nI n ∧ I 84 5 = nI v ∧ v < 7776 ∧ ∀ i, i < n → I 119 i = nI (v / 6 ^ (n - 1 - i) % 6)
def FaultP (I : Nat → Nat → Int32) : Prop := I 58 10 = I 97 13 ∧ I 58 11 = I 103 0 ∧ I 58 12 = I 103 1
def TblP (C H : Nat) (I : Nat → Nat → Int32) : Prop := ∃ A PH MH cd, I 87 4 = nI A ∧ I 97 52 = nI A ∧ TB C H A 88 90 91 122 124 125 126 PH MH cd I ∧ ∀ p, p < C → I 89 p = I 123 p
def ImgP (C H : Nat) (I : Nat → Nat → Int32) : Prop := (I 58 9 = nI 0 ∧ I 97 59 = nI 0) ∨ (I 58 9 = nI 1 ∧ I 97 59 = nI 1 ∧ ∃ A PH MH cd, I 92 4 = nI A ∧ I 97 60 = nI A ∧ TB C H A 93 95 96 128 130 131 132 PH MH cd I ∧ ∀ p, p < C → I 94 p = I 129 p)
def Inv (Z I : Nat → Nat → Int32) : Prop := Old Z I ∧ ∃ C H N M w K S Y L, SetP C H N M w K S Y I ∧ TapeP L I ∧ KeptP I ∧ FaultP I ∧ TblP C H I ∧ ImgP C H I
theorem TB.of {C H A p1 f1 d1 p2 m2 ps ms q1 g1 e1 q2 n2 qs ns : Nat} {PH MH : Nat → Nat → Nat} {cd : Nat → Nat × Nat × Nat × Nat} {I I' : Nat → Nat → Int32} (h : TB C H A p1 f1 d1 p2 m2 ps ms PH MH cd I) (hC : C ≤ 60) (a1 : ∀ p, p < C → I' q1 p = I p1 p) (a2 : ∀ p, p < C → I' g1 p = I f1 p) (a3 : ∀ j, j < 20 → I' e1 j = I d1 j) (a4 : ∀ p, p < C → I' q2 p = I p2 p) (a5 : ∀ p, p < C → I' n2 p = I m2 p) (a6 : ∀ j, j < 1200 → I' qs j = I ps j) (a7 : ∀ j, j < 1200 → I' ns j = I ms j) : TB C H A q1 g1 e1 q2 n2 qs ns PH MH cd I' := by
  obtain ⟨b1, b2, b3, b4, b5⟩ := h
  refine ⟨b1, fun p hp => ?_, fun p hp => ?_, b4, fun j hj => ?_⟩
  · rw [a1 p hp, a4 p hp]
    exact b2 p hp
  · rw [a2 p hp, a5 p hp]
    exact b3 p hp
  · obtain ⟨c1, c2, c3, c4, c5, c6⟩ := b5 j hj
    refine ⟨c1, ?_, fun p hp => ?_, fun p hp => ?_, c5, c6⟩
    · rw [a3 j (by omega)]
      exact c2
    · rw [a6 _ (by omega)]
      exact c3 p hp
    · rw [a7 _ (by omega)]
      exact c4 p hp
theorem TB.same {C H A p1 f1 d1 p2 m2 ps ms : Nat} {PH MH : Nat → Nat → Nat} {cd : Nat → Nat × Nat × Nat × Nat} {I I' : Nat → Nat → Int32} (h : TB C H A p1 f1 d1 p2 m2 ps ms PH MH cd I) (hC : C ≤ 60) (a1 : I' p1 = I p1) (a2 : I' f1 = I f1) (a3 : I' d1 = I d1) (a4 : I' p2 = I p2) (a5 : I' m2 = I m2) (a6 : I' ps = I ps) (a7 : I' ms = I ms) : TB C H A p1 f1 d1 p2 m2 ps ms PH MH cd I' :=
  h.of hC (fun p _ => by rw [a1]) (fun p _ => by rw [a2]) (fun p _ => by rw [a3]) (fun p _ => by rw [a4]) (fun p _ => by rw [a5]) (fun p _ => by rw [a6]) (fun p _ => by rw [a7])
theorem Old.fr {Z I I' : Nat → Nat → Int32} {S : List Nat} (h : Old Z I) (f : Fr S I I') (hS : ∀ a, a ∈ S → 58 ≤ a) : Old Z I' := fun a ha => by
  rw [f a (fun w => by have := hS a w; omega)]
  exact h a ha
theorem TapeP.fr {L : Nat} {I I' : Nat → Nat → Int32} (h : TapeP L I) (e60 : I' 60 1 = I 60 1) (e61 : I' 61 = I 61) (e102 : I' 102 = I 102) (e97 : I' 97 11 = I 97 11) : TapeP L I' := by
  obtain ⟨a, b, c, d⟩ := h
  exact ⟨a, by rw [e60]; exact b, by rw [e97]; exact c, by rw [e102, e61]; exact d⟩
theorem KeptP.fr {I I' : Nat → Nat → Int32} (h : KeptP I) (e5 : I' 84 5 = I 84 5) (e6 : I' 84 6 = I 84 6) (e97 : I' 97 48 = I 97 48) (e119 : I' 119 = I 119) : KeptP I' := by
  unfold KeptP
  rw [e5, e6, e97, e119]
  exact h
theorem FaultP.fr {I I' : Nat → Nat → Int32} (h : FaultP I) (e : I' 58 = I 58) (e103 : I' 103 = I 103) (e97 : I' 97 13 = I 97 13) : FaultP I' := by
  unfold FaultP
  rw [e, e103, e97]
  exact h
theorem TblP.fr {C H : Nat} {I I' : Nat → Nat → Int32} (h : TblP C H I) (hC : C ≤ 60) (e87 : I' 87 4 = I 87 4) (e97 : I' 97 52 = I 97 52) (f : ∀ a, a = 88 ∨ a = 89 ∨ a = 90 ∨ a = 91 ∨ a = 122 ∨ a = 123 ∨ a = 124 ∨ a = 125 ∨ a = 126 → I' a = I a) : TblP C H I' := by
  obtain ⟨A, PH, MH, cd, a1, a2, a3, a4⟩ := h
  refine ⟨A, PH, MH, cd, by rw [e87]; exact a1, by rw [e97]; exact a2, a3.same hC (f _ (by simp)) (f _ (by simp)) (f _ (by simp)) (f _ (by simp)) (f _ (by simp)) (f _ (by simp)) (f _ (by simp)), fun p hp => ?_⟩
  rw [f 89 (by simp), f 123 (by simp)]
  exact a4 p hp
theorem ImgP.fr {C H : Nat} {I I' : Nat → Nat → Int32} (h : ImgP C H I) (hC : C ≤ 60) (e58 : I' 58 9 = I 58 9) (e92 : I' 92 4 = I 92 4) (e97 : I' 97 59 = I 97 59) (e60 : I' 97 60 = I 97 60) (f : ∀ a, a = 93 ∨ a = 94 ∨ a = 95 ∨ a = 96 ∨ a = 128 ∨ a = 129 ∨ a = 130 ∨ a = 131 ∨ a = 132 → I' a = I a) : ImgP C H I' := by
  rcases h with ⟨h1, h2⟩ | ⟨h1, h2, A, PH, MH, cd, a1, a2, a3, a4⟩
  · exact Or.inl ⟨by rw [e58]; exact h1, by rw [e97]; exact h2⟩
  · refine Or.inr ⟨by rw [e58]; exact h1, by rw [e97]; exact h2, A, PH, MH, cd, by rw [e92]; exact a1, by rw [e60]; exact a2, a3.same hC (f _ (by simp)) (f _ (by simp)) (f _ (by simp)) (f _ (by simp)) (f _ (by simp)) (f _ (by simp)) (f _ (by simp)), fun p hp => ?_⟩
    rw [f 94 (by simp), f 129 (by simp)]
    exact a4 p hp
theorem Inv.keep {Z I I' : Nat → Nat → Int32} (h : Inv Z I) (k : Keep I I') : Inv Z I' := by
  obtain ⟨o, C, H, N, M, w, K, S, Y, L, h1, h2, h3, h4, h5, h6⟩ := h
  have c4 := h1.ch.2.2.2
  have h1' := h1.keep k
  obtain ⟨f, k4, k5, k6, k7, k97⟩ := k
  refine ⟨o.fr f (by decide), C, H, N, M, w, K, S, Y, L, h1', h2.fr (by rw [f 60 (by decide)]) (f 61 (by decide)) (f 102 (by decide)) (k97 11 (by decide) (by decide)), h3.fr k6 k7 (k97 48 (by decide) (by decide)) (f 119 (by decide)), h4.fr (f 58 (by decide)) (f 103 (by decide)) (k97 13 (by decide) (by decide)), h5.fr c4 (by rw [f 87 (by decide)]) (k97 52 (by decide) (by decide)) (fun a ha => f a ?_), h6.fr c4 (by rw [f 58 (by decide)]) (by rw [f 92 (by decide)]) (k97 59 (by decide) (by decide)) (k97 60 (by decide) (by decide)) (fun a ha => f a ?_)⟩
  · rcases ha with rfl | rfl | rfl | rfl | rfl | rfl | rfl | rfl | rfl <;> decide
  · rcases ha with rfl | rfl | rfl | rfl | rfl | rfl | rfl | rfl | rfl <;> decide
section CA
variable {Z I : Nat → Nat → Int32}
theorem card_s (h : Inv Z I) (x1 : Int32) : ∃ q b I2, f_103 x1 I = some q ∧ f_197 x1 I = some (b, I2) ∧ Keep I I2 ∧ OKq cdN q b (I2 97 0) := by
  obtain ⟨o, C, H, N, M, w, K, S, Y, L, h1, h2, h3, h4, ⟨A, PH, MH, cd, a1, a2, ⟨b1, b2, b3, b4, b5⟩, a4⟩, h6⟩ := h
  obtain ⟨c1, c2, c3, c4⟩ := h1.ch
  have h0 := h1.up0 (nI 0)
  have z0 : (up I 97 0 (nI 0)) 97 0 = nI 0 := up_at
  have k0 := (Keep.refl I).up0 (nI 0)
  rcases ix x1 C (by omega) with ⟨p, hp', rfl⟩ | o1
  · obtain ⟨g1, g2⟩ := b2 p hp'
    have p6 : p < 60 := by omega
    have g2' : (up I 97 0 (nI 0)) 122 p = nI (PH A p) := by rw [up_ne (by decide)]; exact g2
    refine ⟨.inl (nI (PH A p)), nI (PH A p), up I 97 0 (nI 0), ?_, ?_, k0, by rw [z0]; exact ⟨rfl, rfl⟩⟩
    · unfold f_103
      simp (disch := omega) only [lits, f56_y h1.i4 (show C < 2147483648 by omega) hp', Option.bind_some, e10, if_false, atN, g1]
    · unfold f_197 lb_197_2
      simp (disch := omega) only [lits, f176_y z0 h0.m1 (show C < 2147483648 by omega) hp', Option.bind_some, e10, if_false, inN, clN, p6, if_true, g2']
  · refine ⟨.inr 1, nI 0, up (up I 97 0 (nI 0)) 97 0 (nI 1), ?_, ?_, k0.up0 _, by rw [up_at]; exact ⟨rfl, by decide, by decide⟩⟩
    · unfold f_103
      simp only [lits, f56_n h1.i4 (show C < 2147483648 by omega) (by omega) o1, Option.bind_some, if_true]
    · unfold f_197 lb_197_2
      simp only [lits, f176_n z0 h0.m1 o1, Option.bind_some, if_true]
theorem lies_s (h : Inv Z I) (x1 : Int32) : ∃ q b I2, f_106 x1 I = some q ∧ f_201 x1 I = some (b, I2) ∧ Keep I I2 ∧ OKq cdN q b (I2 97 0) := by
  obtain ⟨o, C, H, N, M, w, K, S, Y, L, h1, h2, h3, h4, ⟨A, PH, MH, cd, a1, a2, ⟨b1, b2, b3, b4, b5⟩, a4⟩, h6⟩ := h
  obtain ⟨c1, c2, c3, c4⟩ := h1.ch
  have h0 := h1.up0 (nI 0)
  have z0 : (up I 97 0 (nI 0)) 97 0 = nI 0 := up_at
  have k0 := (Keep.refl I).up0 (nI 0)
  rcases ix x1 C (by omega) with ⟨p, hp', rfl⟩ | o1
  · obtain ⟨g1, g2⟩ := b3 p hp'
    have p6 : p < 60 := by omega
    have g2' : (up I 97 0 (nI 0)) 124 p = nI (MH A p) := by rw [up_ne (by decide)]; exact g2
    refine ⟨.inl (nI (MH A p)), nI (MH A p), up I 97 0 (nI 0), ?_, ?_, k0, by rw [z0]; exact ⟨rfl, rfl⟩⟩
    · unfold f_106
      simp (disch := omega) only [lits, f56_y h1.i4 (show C < 2147483648 by omega) hp', Option.bind_some, e10, if_false, atN, g1]
    · unfold f_201 lb_201_2
      simp (disch := omega) only [lits, f176_y z0 h0.m1 (show C < 2147483648 by omega) hp', Option.bind_some, e10, if_false, inN, clN, p6, if_true, g2']
  · refine ⟨.inr 1, nI 0, up (up I 97 0 (nI 0)) 97 0 (nI 1), ?_, ?_, k0.up0 _, by rw [up_at]; exact ⟨rfl, by decide, by decide⟩⟩
    · unfold f_106
      simp only [lits, f56_n h1.i4 (show C < 2147483648 by omega) (by omega) o1, Option.bind_some, if_true]
    · unfold f_201 lb_201_2
      simp only [lits, f176_n z0 h0.m1 o1, Option.bind_some, if_true]
theorem fits_s (h : Inv Z I) : ∃ q I2, f_107 I = some q ∧ f_202 I = some (q, I2) ∧ Keep I I2 := by
  obtain ⟨o, C, H, N, M, w, K, S, Y, L, h1, h2, h3, h4, ⟨A, PH, MH, cd, a1, a2, ⟨b1, b2, b3, b4, b5⟩, a4⟩, h6⟩ := h
  obtain ⟨c1, c2, c3, c4⟩ := h1.ch
  have m2 := h1.2.2.1
  have i6 := h1.2.2.2.2.2.1.2.2.1
  have m4 := h1.2.2.2.2.2.2.2.2.2.1.2.2.2.1
  refine ⟨lN (fitB M (MH A) C), up I 97 0 (nI 0), ?_, ?_, (Keep.refl I).up0 _⟩
  · unfold f_107
    rw [f66_s c4 m2 h1.i4 i6 (fun c hc => ⟨by have := (b4 A c (Nat.le_refl A) hc).2; omega, (b3 c hc).1⟩)]
    rfl
  · exact f202_s c4 m2 h1.m1 m4 (fun c hc => ⟨by have := (b4 A c (Nat.le_refl A) hc).2; omega, (b3 c hc).2⟩)
theorem count_s (h : Inv Z I) (x1 : Int32) : ∃ q b I2, f_91 x1 I = some q ∧ f_165 x1 I = some (b, I2) ∧ Keep I I2 ∧ OKq cdN q b (I2 97 0) := by
  obtain ⟨o, C, H, N, M, w, K, S, Y, L, h1, h2, h3, h4, ⟨A, PH, MH, cd, a1, a2, ⟨b1, b2, b3, b4, b5⟩, a4⟩, h6⟩ := h
  obtain ⟨c1, c2, c3, c4⟩ := h1.ch
  have h0 := h1.up0 (nI 0)
  have z0 : (up I 97 0 (nI 0)) 97 0 = nI 0 := up_at
  have k0 := (Keep.refl I).up0 (nI 0)
  have mm := h1.2.2.1
  have i6 := h1.2.2.2.2.2.1.2.2.1
  have i7 := h1.2.2.2.2.2.1.2.2.2.1
  have q4 : (up I 97 0 (nI 0)) 97 4 = nI M := h0.2.2.2.2.2.2.2.2.2.1.2.2.2.1
  have q5 : (up I 97 0 (nI 0)) 97 5 = nI w := h0.2.2.2.2.2.2.2.2.2.1.2.2.2.2
  have q52 : (up I 97 0 (nI 0)) 97 52 = nI A := by rw [up_nk (by decide)]; exact a2
  have q11 : (up I 97 0 (nI 0)) 97 11 = nI L := by rw [up_nk (by decide)]; exact h2.2.2.1
  have q103 : (up I 97 0 (nI 0)) 103 = I 103 := by rw [up_ne (by decide)]
  have s66 := f66_s c4 mm h1.i4 i6 (fun c hc => ⟨by have := (b4 A c (Nat.le_refl A) hc).2; omega, (b3 c hc).1⟩)
  have s198 := f198_s (I := up I 97 0 (nI 0)) (f := MH A) c4 mm h0.m1 q4 (fun c hc => ⟨by have := (b4 A c (Nat.le_refl A) hc).2; omega, by rw [up_ne (by decide)]; exact (b3 c hc).2⟩)
  have s210 := f210_s (n := fitB M (MH A) C) (by
    have := fitB_lt M (MH A) C
    have : 2 ^ C ≤ 2 ^ 60 := Nat.pow_le_pow_right (by decide) c4
    omega)
  rw [fitB_pc M (MH A) C c4] at s210
  rcases ixw x1 0 9 (by omega) (by omega) with ⟨j, _, hj, rfl⟩ | o1
  · have y0 : f_133 (nI j) (nI 0) (nI 9) = some (nI 1) := f133_y (by omega) hj (by omega)
    have jj : j = 0 ∨ j = 1 ∨ j = 2 ∨ j = 3 ∨ j = 4 ∨ j = 5 ∨ j = 6 ∨ j = 7 ∨ j = 8 ∨ j = 9 := by omega
    have fin : ∀ v : Int32, f_91 (nI j) I = some (.inl v) → f_165 (nI j) I = some (v, up I 97 0 (nI 0)) → ∃ q b I2, f_91 (nI j) I = some q ∧ f_165 (nI j) I = some (b, I2) ∧ Keep I I2 ∧ OKq cdN q b (I2 97 0) := fun v e1 e2 => ⟨_, _, _, e1, e2, k0, by rw [z0]; exact ⟨rfl, rfl⟩⟩
    have l0 : (0 : Nat) < 2 := by decide
    have l1 : (1 : Nat) < 2 := by decide
    rcases jj with rfl | rfl | rfl | rfl | rfl | rfl | rfl | rfl | rfl | rfl
    · refine fin (nI C) ?_ ?_
      · unfold f_91; simp (disch := omega) only [lits, eqN, Nat.reduceEqDiff, if_true, if_false, h1.i4]
      · unfold f_165; simp (disch := omega) only [lits, y0, f132_y z0, Option.bind_some, eqN, Nat.reduceEqDiff, if_true, if_false, h0.m1]
    · refine fin (nI H) ?_ ?_
      · unfold f_91; simp (disch := omega) only [lits, eqN, Nat.reduceEqDiff, if_true, if_false, h1.i5]
      · unfold f_165; simp (disch := omega) only [lits, y0, f132_y z0, Option.bind_some, eqN, Nat.reduceEqDiff, if_true, if_false, h0.m2]
    · refine fin (nI N) ?_ ?_
      · unfold f_91; simp (disch := omega) only [lits, eqN, Nat.reduceEqDiff, if_true, if_false, h1.i8]
      · unfold f_165; simp (disch := omega) only [lits, y0, f132_y z0, Option.bind_some, eqN, Nat.reduceEqDiff, if_true, if_false, h0.m3]
    · refine fin (nI M) ?_ ?_
      · unfold f_91; simp (disch := omega) only [lits, eqN, Nat.reduceEqDiff, if_true, if_false, i6]
      · unfold f_165; simp (disch := omega) only [lits, y0, f132_y z0, Option.bind_some, eqN, Nat.reduceEqDiff, if_true, if_false, q4]
    · refine fin (nI w) ?_ ?_
      · unfold f_91; simp (disch := omega) only [lits, eqN, Nat.reduceEqDiff, if_true, if_false, i7]
      · unfold f_165; simp (disch := omega) only [lits, y0, f132_y z0, Option.bind_some, eqN, Nat.reduceEqDiff, if_true, if_false, q5]
    · refine fin (nI A) ?_ ?_
      · unfold f_91; simp (disch := omega) only [lits, eqN, Nat.reduceEqDiff, if_true, if_false, a1]
      · unfold f_165; simp (disch := omega) only [lits, y0, f132_y z0, Option.bind_some, eqN, Nat.reduceEqDiff, if_true, if_false, q52]
    · refine fin (nI (fitN M (MH A) C)) ?_ ?_
      · unfold f_91; simp (disch := omega) only [lits, eqN, Nat.reduceEqDiff, if_true, if_false, s66, s210, Option.bind_some]
      · unfold f_165; simp (disch := omega) only [lits, y0, f132_y z0, Option.bind_some, eqN, Nat.reduceEqDiff, if_true, if_false, s198]
    · refine fin (nI L) ?_ ?_
      · unfold f_91; simp (disch := omega) only [lits, eqN, Nat.reduceEqDiff, if_true, if_false, h2.2.1]
      · unfold f_165; simp (disch := omega) only [lits, y0, f132_y z0, Option.bind_some, eqN, Nat.reduceEqDiff, if_true, if_false, q11]
    · refine fin (I 103 0) ?_ ?_
      · unfold f_91; simp (disch := omega) only [lits, eqN, Nat.reduceEqDiff, if_true, if_false, h4.2.1]
      · unfold f_165; simp (disch := omega) only [lits, y0, f132_y z0, Option.bind_some, eqN, Nat.reduceEqDiff, if_true, if_false, subN, Nat.reduceSub, inN, clN, l0, q103]
    · refine fin (I 103 1) ?_ ?_
      · unfold f_91; simp (disch := omega) only [lits, eqN, Nat.reduceEqDiff, if_true, if_false, h4.2.2]
      · unfold f_165; simp (disch := omega) only [lits, y0, f132_y z0, Option.bind_some, eqN, Nat.reduceEqDiff, if_true, if_false, subN, Nat.reduceSub, inN, clN, l1, q103]
  · have t : ∀ v, v ≤ 9 → ¬ x1 = nI v := by
      intro v hv e
      rw [e, ltN (by omega) (by omega), ltN (by omega) (by omega)] at o1
      omega
    refine ⟨.inr 1, nI 0, up (up I 97 0 (nI 0)) 97 0 (nI 1), ?_, ?_, k0.up0 _, by rw [up_at]; exact ⟨rfl, by decide, by decide⟩⟩
    · unfold f_91
      simp only [lits, t 0 (by omega), t 1 (by omega), t 2 (by omega), t 3 (by omega), t 4 (by omega), t 5 (by omega), t 6 (by omega), t 7 (by omega), t 8 (by omega), t 9 (by omega), if_false]
    · unfold f_165
      simp only [lits, f133_n o1, f132_n (w := 1) z0 (by decide) (by decide), Option.bind_some, if_true]
theorem fault_s (h : Inv Z I) : ∃ q I2, f_90 I = some q ∧ f_164 I = some (q, I2) ∧ Keep I I2 := by
  obtain ⟨o, C, H, N, M, w, K, S, Y, L, h1, h2, h3, h4, h5, h6⟩ := h
  refine ⟨I 58 10, up I 97 0 (nI 0), rfl, ?_, (Keep.refl I).up0 _⟩
  unfold f_164
  simp only [lits]
  rw [up_nk (by decide), h4.1]
theorem laying_s (h : Inv Z I) (x1 : Int32) : ∃ q b I2, f_98 x1 I = some q ∧ f_191 x1 I = some (b, I2) ∧ Keep I I2 ∧ OKq cdN q b (I2 97 0) := by
  obtain ⟨o, C, H, N, M, w, K, S, Y, L, h1, h2, h3, h4, h5, h6⟩ := h
  have z0 : (up I 97 0 (nI 0)) 97 0 = nI 0 := up_at
  have k0 := (Keep.refl I).up0 (nI 0)
  have e48 : (up I 97 0 (nI 0)) 97 48 = I 97 48 := up_nk (by decide)
  have bad : f_98 x1 I = some (.inr 1) → f_191 x1 I = some (nI 0, up (up I 97 0 (nI 0)) 97 0 (nI 1)) → ∃ q b I2, f_98 x1 I = some q ∧ f_191 x1 I = some (b, I2) ∧ Keep I I2 ∧ OKq cdN q b (I2 97 0) := fun e1 e2 => ⟨_, _, _, e1, e2, k0.up0 _, by rw [up_at]; exact ⟨rfl, by decide, by decide⟩⟩
  rcases h3 with ⟨g1, g2⟩ | ⟨n, v, n1, n5, g1, g2, g3, g4, g5⟩
  · refine bad ?_ ?_
    · unfold f_98 lb_98_1
      simp only [lits, g1]
      by_cases q : x1 < nI 0
      · rw [if_pos q]
      · rw [if_neg q, if_neg q]
    · have g2' : I 97 48 = -nI 1 := g2
      unfold f_191 lb_191_1 lb_191_2 lb_191_4
      simp only [lits, e48, g2', if_true, f132_n (w := 1) z0 (by decide) (by decide), Option.bind_some]
  · rcases ix x1 n (by omega) with ⟨i, hi, rfl⟩ | o1
    · have i5 : i < 5 := by omega
      have g5' : (up I 97 0 (nI 0)) 119 i = nI (v / 6 ^ (n - 1 - i) % 6) := by rw [up_ne (by decide)]; exact g5 i hi
      refine ⟨.inl (nI (v / 6 ^ (n - 1 - i) % 6)), nI (v / 6 ^ (n - 1 - i) % 6), up I 97 0 (nI 0), ?_, ?_, k0, by rw [z0]; exact ⟨rfl, rfl⟩⟩
      · unfold f_98 f_84
        simp (disch := omega) only [lits, n0N, Nat.not_lt_zero, if_false, g1, ltN, hi, if_true, g3, subN, f121_s, Option.bind_some]
      · unfold f_191 lb_191_1 lb_191_2 lb_191_4
        simp (disch := omega) only [lits, e48, g2, ne1N, n0N, Nat.not_lt_zero, if_false, ltN, hi, if_true, f132_y z0, Option.bind_some, e10, inN, clN, i5, g5']
    · refine bad ?_ ?_
      · unfold f_98 lb_98_1
        simp only [lits, g1]
        rcases o1 with o1 | o1
        · rw [if_pos o1]
        · rw [if_neg o1]
          split <;> rfl
      · unfold f_191 lb_191_1 lb_191_2 lb_191_4
        simp (disch := omega) only [lits, e48, g2, ne1N, if_false, f132_n (w := 1) z0 (by decide) (by decide), Option.bind_some, if_true]
        rcases o1 with o1 | o1
        · rw [if_pos o1]
        · rw [if_neg o1]
          split <;> rfl
end CA
