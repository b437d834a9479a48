/-! answer, undo, see, image, restore -/
section AN
variable {Z I : Nat → Nat → Int32}
theorem f58_y {C H N M w : Nat} {K S : Nat → Nat} {Y : Nat → Nat → Nat} {k s l a : Nat} (h : SetP C H N M w K S Y I) (hk : k < 3) (hs : s < 2) (hl : l < H) (ha : a < H) : f_58 (nI k) (nI s) (nI l) (nI a) I = some (nI 1) := by
  have c2 := h.ch.2.1
  unfold f_58 lb_58_2
  simp only [lits, f122_y (Nat.zero_le k) (show k ≤ 2 by omega) (by decide), f122_y (Nat.zero_le s) (show s ≤ 1 by omega) (by decide), f57_y h.i5 (show H < 2147483648 by omega) hl, f57_y h.i5 (show H < 2147483648 by omega) ha, Option.bind_some, e10, if_false, or_true, if_true]
theorem f193_y {C H N M w : Nat} {K S : Nat → Nat} {Y : Nat → Nat → Nat} {k s l a : Nat} (h : SetP C H N M w K S Y I) (hk : k < 3) (hs : s < 2) (hl : l < H) (ha : a < H) : f_193 (nI k) (nI s) (nI l) (nI a) I = some (nI 1) := by
  have c2 := h.ch.2.1
  unfold f_193 lb_193_2
  simp (disch := omega) only [lits, f133_y (Nat.zero_le k) (show k ≤ 2 by omega) (by decide), f133_y (Nat.zero_le s) (show s ≤ 1 by omega) (by decide), h.m2, ltN, Nat.not_lt_zero, hl, ha, Option.bind_some, e10, if_false, or_true, if_true]
/-- a deal as it may be told, or not -/
theorem deal_or {C H N M w : Nat} {K S : Nat → Nat} {Y : Nat → Nat → Nat} (h : SetP C H N M w K S Y I) (x1 x2 x3 x4 : Int32) : (∃ k s l a, k < 3 ∧ s < 2 ∧ l < H ∧ a < H ∧ x1 = nI k ∧ x2 = nI s ∧ x3 = nI l ∧ x4 = nI a) ∨ (f_58 x1 x2 x3 x4 I = some (nI 0) ∧ f_193 x1 x2 x3 x4 I = some (nI 0)) := by
  have c2 := h.ch.2.1
  have c1 := h.ch.1
  rcases ixw x1 0 2 (by omega) (by omega) with ⟨k, _, hk, rfl⟩ | o1
  · rcases ixw x2 0 1 (by omega) (by omega) with ⟨s, _, hs, rfl⟩ | o2
    · rcases ix x3 H (by omega) with ⟨l, hl, rfl⟩ | o3
      · rcases ix x4 H (by omega) with ⟨a, ha, rfl⟩ | o4
        · exact Or.inl ⟨k, s, l, a, by omega, by omega, hl, ha, rfl, rfl, rfl, rfl⟩
        · refine Or.inr ⟨?_, ?_⟩
          · unfold f_58 lb_58_1 lb_58_2
            simp only [lits, f122_y (Nat.zero_le k) hk (by decide), f122_y (Nat.zero_le s) hs (by decide), f57_y h.i5 (show H < 2147483648 by omega) hl, f57_n h.i5 (show H < 2147483648 by omega) (by omega) o4, Option.bind_some, e10, if_false, true_or, if_true]
          · unfold f_193 lb_193_1 lb_193_2
            simp (disch := omega) only [lits, f133_y (Nat.zero_le k) hk (by decide), f133_y (Nat.zero_le s) hs (by decide), h.m2, ltN, Nat.not_lt_zero, hl, Option.bind_some, e10, if_false, true_or, if_true]
            rcases o4 with o4 | o4
            · rw [if_pos o4]
            · rw [if_neg o4]
              split <;> rfl
      · refine Or.inr ⟨?_, ?_⟩
        · unfold f_58 lb_58_1 lb_58_2
          simp only [lits, f122_y (Nat.zero_le k) hk (by decide), f122_y (Nat.zero_le s) hs (by decide), f57_n h.i5 (show H < 2147483648 by omega) (by omega) o3, Option.bind_some, e10, if_false, true_or, if_true]
        · unfold f_193 lb_193_1 lb_193_2
          simp (disch := omega) only [lits, f133_y (Nat.zero_le k) hk (by decide), f133_y (Nat.zero_le s) hs (by decide), h.m2, Option.bind_some, e10, if_false, true_or, if_true]
          rcases o3 with o3 | o3
          · rw [if_pos o3]
          · rw [if_neg o3]
            split <;> rfl
    · refine Or.inr ⟨?_, ?_⟩
      · unfold f_58 lb_58_1 lb_58_2
        simp only [lits, f122_y (Nat.zero_le k) hk (by decide), f122_n o2, Option.bind_some, e10, if_false, true_or, if_true]
      · unfold f_193 lb_193_1 lb_193_2
        simp only [lits, f133_y (Nat.zero_le k) hk (by decide), f133_n o2, Option.bind_some, e10, if_false, true_or, if_true]
  · refine Or.inr ⟨?_, ?_⟩
    · unfold f_58 lb_58_1 lb_58_2
      simp only [lits, f122_n o1, Option.bind_some, true_or, if_true]
    · unfold f_193 lb_193_1 lb_193_2
      simp only [lits, f133_n o1, Option.bind_some, true_or, if_true]
/-- all but answers and tables is as before -/
def KeepT (I I' : Nat → Nat → Int32) : Prop := Fr [58, 59, 74, 78, 87, 88, 89, 90, 91, 92, 93, 94, 95, 96, 97, 103, 110, 111, 112, 113, 114, 115, 122, 123, 124, 125, 126, 127, 128, 129, 130, 131, 132] I I' ∧ I' 74 4 = I 74 4 ∧ I' 74 5 = I 74 5 ∧ (∀ k, k ≠ 0 → k ≠ 52 → k ≠ 59 → k ≠ 60 → I' 97 k = I 97 k)
theorem KeepT.trans {I I' I'' : Nat → Nat → Int32} (h : KeepT I I') (h' : KeepT I' I'') : KeepT I I'' := by
  obtain ⟨a, b, c, d⟩ := h
  obtain ⟨a', b', c', d'⟩ := h'
  exact ⟨a.trans a', b'.trans b, c'.trans c, fun k h0 h1 h2 h3 => (d' k h0 h1 h2 h3).trans (d k h0 h1 h2 h3)⟩
theorem KeepT.set {C H N M w : Nat} {K S : Nat → Nat} {Y : Nat → Nat → Nat} {I' : Nat → Nat → Int32} (k : KeepT I I') (h : SetP C H N M w K S Y I) : SetP C H N M w K S Y I' := by
  obtain ⟨a1, a2, a3, a4, a5, a6, a7, a8, a9, b1, b2, b3⟩ := h
  obtain ⟨f, k4, k5, k97⟩ := k
  have e79 := f 79 (by decide)
  have e80 := f 80 (by decide)
  have e81 := f 81 (by decide)
  have e82 := f 82 (by decide)
  have e83 := f 83 (by decide)
  have e98 := f 98 (by decide)
  have e99 := f 99 (by decide)
  have e100 := f 100 (by decide)
  have e101 := f 101 (by decide)
  refine ⟨a1, a2, a3, a4, a5.fr k4 k5 (f 75 (by decide)) (f 76 (by decide)) (f 77 (by decide)), by rw [e79]; exact a6, fun d hd => by rw [e80, e81]; exact a7 d hd, fun d h hd hh => by rw [e82]; exact a8 d h hd hh, fun d p hd hp => by rw [e83]; exact a9 d p hd hp, ?_, b2, fun d hd => ?_⟩
  · rw [k97 1 (by decide) (by decide) (by decide) (by decide), k97 2 (by decide) (by decide) (by decide) (by decide), k97 3 (by decide) (by decide) (by decide) (by decide), k97 4 (by decide) (by decide) (by decide) (by decide), k97 5 (by decide) (by decide) (by decide) (by decide)]
    exact b1
  · obtain ⟨c1, c2, P, a, d1, d2, d3, d4⟩ := b3 d hd
    exact ⟨by rw [e98]; exact c1, by rw [e99]; exact c2, P, a, by rw [e100]; exact d1, d2, by rw [e101]; exact d3, d4⟩
/-- a new table: all else stands -/
theorem KeepT.inv {C H N M w : Nat} {K S : Nat → Nat} {Y : Nat → Nat → Nat} {L : Nat} {I' : Nat → Nat → Int32} (k : KeepT I I') (o : Old Z I) (h1 : SetP C H N M w K S Y I) (h2 : TapeP L I) (h3 : KeptP I) (h4 : FaultP I') (h5 : TblP C H I') (h6 : ImgP C H I') : Inv Z I' := by
  have h1' := k.set h1
  obtain ⟨f, k4, k5, k97⟩ := k
  exact ⟨o.fr f (by decide), C, H, N, M, w, K, S, Y, L, h1', h2.fr (by rw [f 60 (by decide)]) (f 61 (by decide)) (f 102 (by decide)) (k97 11 (by decide) (by decide) (by decide) (by decide)), h3.fr (by rw [f 84 (by decide)]) (by rw [f 84 (by decide)]) (k97 48 (by decide) (by decide) (by decide) (by decide)) (f 119 (by decide)), h4, h5, h6⟩
/-- what an answer does to packs -/
theorem ans_c {C H N M w : Nat} {K S : Nat → Nat} {Y : Nat → Nat → Nat} {A : Nat} {q : Nat × Nat × Nat × Nat} {P M0 : Nat → Nat} (h : SetP C H N M w K S Y I) (hq : cdv H q) (hA : A < 20) (a1 : I 87 4 = nI A) (hP : ∀ p, p < C → P p < C ∧ I 88 p = nI (P p)) (hM : ∀ c, c < C → M0 c ≤ 1500 ∧ I 90 c = nI (M0 c)) : ∃ I', f_104 (nI q.1) (nI q.2.1) (nI q.2.2.1) (nI q.2.2.2) I = some (nI (fitN M (fun c => M0 c + ad P (fl C H q.1 q.2.2.2) C c) C), I') ∧ I' 87 4 = nI (A + 1) ∧ (∀ x, x < C → I' 88 (np C H q.1 q.2.1 q.2.2.1 q.2.2.2 q.2.2.2 x) = nI (P x)) ∧ (∀ c, c < C → I' 90 c = nI (M0 c + ad P (fl C H q.1 q.2.2.2) C c)) ∧ (∀ j, j < 20 → I' 91 j = if j = A then nI (cdn q) else I 91 j) ∧ Fr [59, 74, 78, 87, 88, 90, 91] I I' ∧ I' 74 4 = I 74 4 ∧ I' 74 5 = I 74 5 := by
  have hC := h.ch
  obtain ⟨c1, c2, c3, c4⟩ := h.ch
  have mm := h.2.2.1
  obtain ⟨z, _⟩ := cdn_lt c2 hq
  have i6 := h.2.2.2.2.2.1.2.2.1
  have frA : Fr [59, 74, 78, 87, 88, 90, 91] I (up (up I 91 A (nI (cdn q))) 87 4 (nI (A + 1))) := ((Fr.refl _ _).up (by decide)).up (by decide)
  have dA : DT C H (up (up I 91 A (nI (cdn q))) 87 4 (nI (A + 1))) := h.dt.fr (by rw [up_ne (by decide), up_ne (by decide)]) (by rw [up_ne (by decide), up_ne (by decide)]) (by rw [up_ne (by decide), up_ne (by decide)]) (by rw [up_ne (by decide), up_ne (by decide)]) (by rw [up_ne (by decide), up_ne (by decide)])
  obtain ⟨I1, r1, r2, r3, r4, r5⟩ := f67_s hC hq dA
  have frB : Fr [59, 74, 78, 87, 88, 90, 91] I (cpyf I1 88 59 60) := (frA.trans (r5.mono (by decide))).trans (fun a ha => by
    have : a ≠ 59 := fun e => ha (by rw [e]; decide)
    exact cpyf_ne this)
  have fr59 : Fr [59] I1 (cpyf I1 88 59 60) := fun a ha => cpyf_ne (fun e => ha (by rw [e]; decide))
  obtain ⟨I2, s1, s2, s3, s4⟩ := f63_in (P := P) (M0 := M0) hC hq (fun p hp => (hP p hp).1) C 0 FU (cpyf I1 88 59 60) (by omega) (FU_big (by omega)) (r2.fr fr59 (by decide) (by decide) (by decide) (by decide)) (fun x hx => by rw [fr59 78 (by decide)]; exact r3 x hx) (fun x hx => by
    rw [cpyf_at (by omega), r5 88 (by decide), up_ne (by decide), up_ne (by decide)]
    exact (hP x hx).2) (fun x hx => absurd hx (Nat.not_lt_zero _)) (fun c hc => by
    rw [cpyf_ne (by decide), r5 90 (by decide), up_ne (by decide), up_ne (by decide), ad, Nat.add_zero]
    exact (hM c hc).2)
  have frC : Fr [59, 74, 78, 87, 88, 90, 91] I I2 := frB.trans (s4.mono (by decide))
  have e87 : I2 87 4 = nI (A + 1) := by
    rw [s4 87 (by decide), cpyf_ne (by decide), r5 87 (by decide), up_at]
  have e74 : I2 74 4 = I 74 4 ∧ I2 74 5 = I 74 5 := by
    rw [s4 74 (by decide), cpyf_ne (by decide), r2.1.1, r2.1.2.1, h.dt.1, h.dt.2.1]
    exact ⟨rfl, rfl⟩
  have s66 := f66_s (I := I2) (f := fun c => M0 c + ad P (fl C H q.1 q.2.2.2) C c) c4 mm (by rw [frC 79 (by decide)]; exact h.i4) (by rw [frC 79 (by decide)]; exact i6) (fun c hc => ⟨by
    have := (hM c hc).1
    have := ad_le (P := P) (C := C) (H := H) (k := q.1) (a := q.2.2.2) C c
    omega, s3 c hc⟩)
  have s210 := f210_s (n := fitB M (fun c => M0 c + ad P (fl C H q.1 q.2.2.2) C c) C) (by
    have := fitB_lt M (fun c => M0 c + ad P (fl C H q.1 q.2.2.2) C c) C
    have : 2 ^ C ≤ 2 ^ 60 := Nat.pow_le_pow_right (by decide) c4
    omega)
  rw [fitB_pc M _ C c4] at s210
  refine ⟨I2, ?_, e87, s2, s3, fun j hj => ?_, frC, e74.1, e74.2⟩
  · have hA20 : A < 20 := hA
    have e1 : f_120 (nI q.1) (nI q.2.1) (nI q.2.2.1) (nI q.2.2.2) = some (nI (cdn q)) := by
      unfold f_120 cdn
      simp only [lits, mulN, addN]
    have e2 : f_62 (nI (cdn q)) I = some (up (up I 91 A (nI (cdn q))) 87 4 (nI (A + 1))) := by
      unfold f_62
      simp (disch := omega) only [a1, puN, up_ne, lits, addN]
    have e3 : f_63 (up (up I 91 A (nI (cdn q))) 87 4 (nI (A + 1))) = some I2 := by
      unfold f_63
      have w1 : (up (up I 91 A (nI (cdn q))) 87 4 (nI (A + 1))) 87 4 = nI (A + 1) := up_at
      have w2 : (up (up I 91 A (nI (cdn q))) 87 4 (nI (A + 1))) 91 A = nI (cdn q) := by rw [up_ne (by decide), up_at]
      simp (disch := omega) only [w1, lits, subN, Nat.add_sub_cancel, atN, w2, r1, Option.bind_some]
      exact s1
    unfold f_104
    simp (disch := omega) only [a1, lits, ltN, hA20, if_true, f58_y h hq.1 hq.2.1 hq.2.2.1 hq.2.2.2, Option.bind_some, e10, if_false, e1, e2, e3, s66, s210]
  · rw [s4 91 (by decide), cpyf_ne (by decide), r5 91 (by decide), up_ne (by decide), up_eq]
theorem ans_m {C H N M w : Nat} {K S : Nat → Nat} {Y : Nat → Nat → Nat} {A : Nat} {q : Nat × Nat × Nat × Nat} {P M0 : Nat → Nat} (h : SetP C H N M w K S Y I) (hq : cdv H q) (hA : A < 20) (a1 : I 97 52 = nI A) (hP : ∀ p, p < C → P p < C ∧ I 122 p = nI (P p)) (hM : ∀ c, c < C → M0 c ≤ 1500 ∧ I 124 c = nI (M0 c)) : ∃ I', f_199 (nI q.1) (nI q.2.1) (nI q.2.2.1) (nI q.2.2.2) I = some (nI (fitN M (fun c => M0 c + ad P (fl C H q.1 q.2.2.2) C c) C), I') ∧ I' 97 52 = nI (A + 1) ∧ (∀ x, x < C → I' 122 x = nI (P (iv (np C H q.1 q.2.1 q.2.2.1 q.2.2.2 q.2.2.2) C x))) ∧ (∀ c, c < C → I' 124 c = nI (M0 c + ad P (fl C H q.1 q.2.2.2) C c)) ∧ (∀ x, x < C → I' 125 (60 * A + x) = nI (P x) ∧ I' 126 (60 * A + x) = nI (M0 x)) ∧ (∀ y, y < 60 * A → I' 125 y = I 125 y ∧ I' 126 y = I 126 y) ∧ Fr [97, 110, 111, 112, 113, 114, 122, 124, 125, 126, 127] I I' ∧ (∀ k, k ≠ 0 → k ≠ 52 → I' 97 k = I 97 k) := by
  have hC := h.ch
  obtain ⟨c1, c2, c3, c4⟩ := h.ch
  have mm := h.2.2.1
  have h0 := h.up0 (nI 0)
  have m4 := h.2.2.2.2.2.2.2.2.2.1.2.2.2.1
  have z52 : (up I 97 0 (nI 0)) 97 52 = nI A := by rw [up_nk (by decide)]; exact a1
  obtain ⟨I1, r1, r2, r3, r4⟩ := f199_3 (P := P) (M0 := M0) (nI q.1) (nI q.2.1) (nI q.2.2.1) (nI q.2.2.2) c4 hA C 0 FU (up I 97 0 (nI 0)) (by omega) (FU_big (by omega)) h0.m1 z52 (fun x hx => by
    rw [up_ne (by decide), up_ne (by decide)]
    exact ⟨(hP x hx).2, (hM x hx).2⟩) (fun x hx => absurd hx (Nat.not_lt_zero _))
  have e97 : ∀ k, k ≠ 0 → k ≠ 52 → (up I1 97 52 (nI (A + 1))) 97 k = I 97 k := fun k h0 h5 => by
    rw [up_nk h5, r4 97 (by decide), up_nk h0]
  have mc2 : MC C H (up I1 97 52 (nI (A + 1))) := ⟨by rw [e97 1 (by decide) (by decide)]; exact h.m1, by rw [e97 2 (by decide) (by decide)]; exact h.m2⟩
  obtain ⟨I2, s1, s2, s3⟩ := f167_s hC hq.1 hq.2.1 mc2
  obtain ⟨I3, t1, t2, t3, t4⟩ := f168_s hC hq.2.2.2 hq.2.2.2 hq.2.2.1 s2
  have back : ∀ a, a ≠ 97 → a ∉ [110, 111, 112, 113, 114] → I3 a = I1 a := fun a h1 h2 => by
    rw [t4 a (fun w => h2 (by revert w; simp; omega)), s3 a (fun w => h2 (by revert w; simp; omega)), up_ne h1]
  obtain ⟨I4, u1, u2, u3, u4⟩ := f199_5 (P := P) (M0 := M0) hC hq.2.2.2 (fun p hp => (hP p hp).1) C 0 FU I3 (by omega) (FU_big (by omega)) t3 t2 (fun x hx => by
    rw [back 122 (by decide) (by decide), r4 122 (by decide), up_ne (by decide)]
    exact (hP x hx).2) (fun x hx => absurd hx (Nat.not_lt_zero _)) (fun c hc => by
    rw [back 124 (by decide) (by decide), r4 124 (by decide), up_ne (by decide), ad, Nat.add_zero]
    exact (hM c hc).2)
  have i97 : I4 97 = (up I1 97 52 (nI (A + 1))) 97 := by rw [u4 97 (by decide), t4 97 (by decide), s3 97 (by decide)]
  obtain ⟨I5, v1, v2, v3⟩ := f199_9 (Q := fun x => P (iv (np C H q.1 q.2.1 q.2.2.1 q.2.2.2 q.2.2.2) C x)) c4 C 0 FU I4 (by omega) (FU_big (by omega)) (by rw [i97, e97 1 (by decide) (by decide)]; exact h.m1) (fun x hx => by
    obtain ⟨w1, w2⟩ := ivnp (k := q.1) (s := q.2.1) (l := q.2.2.1) hC hq.2.2.2 hx
    have := u2 _ w1
    rw [w2] at this
    exact this) (fun x hx => absurd hx (Nat.not_lt_zero _))
  have i97' : I5 97 = (up I1 97 52 (nI (A + 1))) 97 := by rw [v3 97 (by decide), i97]
  have s198 := f198_s (I := I5) (f := fun c => M0 c + ad P (fl C H q.1 q.2.2.2) C c) c4 mm (by rw [i97', e97 1 (by decide) (by decide)]; exact h.m1) (by rw [i97', e97 4 (by decide) (by decide)]; exact m4) (fun c hc => ⟨by
    have := (hM c hc).1
    have := ad_le (P := P) (C := C) (H := H) (k := q.1) (a := q.2.2.2) C c
    omega, by rw [v3 124 (by decide)]; exact u3 c hc⟩)
  have far : ∀ a, a ∉ [97, 110, 111, 112, 113, 114, 122, 124, 125, 126, 127] → I5 a = I a := fun a ha => by
    rw [v3 a (fun w => ha (by revert w; simp; omega)), u4 a (fun w => ha (by revert w; simp; omega)), back a (fun w => ha (by rw [w]; decide)) (fun w => ha (by revert w; simp; omega)), r4 a (fun w => ha (by revert w; simp; omega)), up_ne (fun w => ha (by rw [w]; decide))]
  have e125 : I5 125 = I1 125 ∧ I5 126 = I1 126 := by
    rw [v3 125 (by decide), v3 126 (by decide), u4 125 (by decide), u4 126 (by decide), back 125 (by decide) (by decide), back 126 (by decide) (by decide)]
    exact ⟨rfl, rfl⟩
  refine ⟨I5, ?_, by rw [i97', up_at], v2, fun c hc => by rw [v3 124 (by decide)]; exact u3 c hc, by rw [e125.1, e125.2]; exact r2, fun y hy => ?_, far, fun k h0 h5 => by rw [i97']; exact e97 k h0 h5⟩
  · unfold f_199
    have nA : ¬ A = 20 := by omega
    simp (disch := omega) only [lits, z52, eqN, nA, if_false, f193_y h0 hq.1 hq.2.1 hq.2.2.1 hq.2.2.2, Option.bind_some, Nat.reduceEqDiff]
    have b1 : lb_199_3 (nI q.1) (nI q.2.1) (nI q.2.2.1) (nI q.2.2.2) (nI 0) (up I 97 0 (nI 0)) = _ := r1
    rw [b1, s1, Option.bind_some, t1, Option.bind_some]
    have b2 : lb_199_5 (nI q.2.2.2) (nI 0) I3 = _ := u1
    rw [b2]
    have b3 : lb_199_9 (nI 0) I4 = _ := v1
    rw [b3, s198, Option.bind_some]
  · rw [e125.1, e125.2]
    have := r3 y hy
    rw [up_ne (by decide), up_ne (by decide)] at this
    exact this
end AN
