/-! both parsers side by side: what is kept -/
def Kc (y : Nat) (I I' : Nat → Nat → Int32) : Prop := Fr [60, 67, 68, 70, 71] I I' ∧ (∀ k, k ∉ [3, 4, 5, 7, 8] → I' 60 k = I 60 k) ∧ ∀ x, x < y → I' 68 x = I 68 x
theorem Kc.refl (y : Nat) (I : Nat → Nat → Int32) : Kc y I I := ⟨Fr.refl _ _, fun _ _ => rfl, fun _ _ => rfl⟩
theorem Kc.trans {y z : Nat} {I I' I'' : Nat → Nat → Int32} (h : Kc y I I') (h' : Kc z I' I'') (hz : y ≤ z) : Kc y I I'' := ⟨h.1.trans h'.1, fun k hk => (h'.2.1 k hk).trans (h.2.1 k hk), fun x hx => (h'.2.2 x (by omega)).trans (h.2.2 x hx)⟩
theorem Kc.mono {y z : Nat} {I I' : Nat → Nat → Int32} (h : Kc y I I') (hz : z ≤ y) : Kc z I I' := ⟨h.1, h.2.1, fun x hx => h.2.2 x (by omega)⟩
theorem Ur.k {y z : Nat} {I I' : Nat → Nat → Int32} (h : Ur y I I') (hz : z ≤ y) : Kc z I I' := ⟨h.1.mono (by decide), fun k _ => by rw [h.1 60 (by decide)], fun x hx => h.2 x (by omega)⟩
theorem Uk.k {y : Nat} {I I' : Nat → Nat → Int32} (h : Uk 60 [3, 4, 5, 7, 8] I I') : Kc y I I' := ⟨h.1.mono (by decide), h.2, fun x _ => by rw [h.1 68 (by decide)]⟩
theorem TC.k {t : Nat → Nat} {E y : Nat} {I I' : Nat → Nat → Int32} (h : TC t E I) (u : Kc y I I') : TC t E I' := h.fr (u.2.1 2 (by decide)) (u.1 61 (by decide))
theorem WZ.k {y : Nat} {I I' : Nat → Nat → Int32} (z : WZ I) (u : Kc y I I') : WZ I' := fun w hw => by
  have e1 : I' (18 + w) = I (18 + w) := u.1 _ (by simp; omega)
  have e2 : I' (35 + w) = I (35 + w) := u.1 _ (by simp; omega)
  rw [e1, e2]
  exact z w hw
theorem WC.k {y : Nat} {I I' : Nat → Nat → Int32} (z : WC I) (u : Kc y I I') : WC I' := fun W h1 h2 => by
  have e1 : I' W = I W := u.1 _ (by simp; omega)
  rw [e1]
  exact z W h1 h2
theorem PC.tok {a0 : Nat} {P : List Int32} {Ws : List Nat} {cmp : Nat → Nat} {due x2 x4 : Nat} {I I' : Nat → Nat → Int32} {ks : List Nat} (h : PC a0 P Ws cmp due x2 x4 I) (u : Uk 60 ks I I') : PC a0 P Ws cmp due x2 x4 I' := by
  obtain ⟨⟨a1, a2, a3, a4⟩, h2, h3, h4, h5, h6⟩ := h
  have e67 := u.1 67 (by decide)
  exact ⟨⟨by rw [e67]; exact a1, by rw [u.1 68 (by decide)]; exact a2, by rw [e67]; exact a3, by rw [u.1 70 (by decide)]; exact a4⟩, by rw [e67]; exact h2, fun d hd => by rw [u.1 71 (by decide)]; exact h3 d hd, by rw [e67]; exact h4, by rw [e67]; exact h5, fun z => by rw [e67]; exact h6 z⟩
theorem MT.fr {s e kd v sg W : Nat} {I I' : Nat → Nat → Int32} {J : Nat → Nat → Int64} (h : MT s e kd v sg W I J) (u : ∀ x, x ≠ 29 → x ≠ 30 → I' 97 x = I 97 x) : MT s e kd v sg W I' J := by
  unfold MT at h ⊢
  rw [u 16 (by decide) (by decide), u 17 (by decide) (by decide), u 18 (by decide) (by decide), u 19 (by decide) (by decide), u 20 (by decide) (by decide), u 21 (by decide) (by decide)]
  exact h
/-- the numbers of a rule under way -/
def Mth (a0 b0 n : Nat) (P : List Int32) (Ws : List Nat) (cmp : Nat → Nat) (due x2 x4 : Nat) : Prop := wf Ws ∧ dpt Ws ≤ 5 ∧ (∀ d, d ≤ dpt Ws → cmp d < 2) ∧ a0 + P.length + Ws.length ≤ n ∧ b0 + (encL P).length + Ws.length ≤ 2 * n ∧ EVP P (bns Ws + (1 - due)) ∧ (due = 1 → x2 < 2 ∧ x4 ≤ 6 ∧ (x2 = 1 → hgt Ws ≤ 2 + x4 ∧ bng Ws ≤ 2))
section MTH
variable {a0 b0 n : Nat} {P : List Int32} {Ws : List Nat} {cmp : Nat → Nat} {due x2 x4 : Nat}
theorem Mth.mono {n' : Nat} (h : Mth a0 b0 n P Ws cmp due x2 x4) (hn : n ≤ n') : Mth a0 b0 n' P Ws cmp due x2 x4 := by
  obtain ⟨h1, h2, h3, h4, h5, h6, h7⟩ := h
  exact ⟨h1, h2, h3, by omega, by omega, h6, h7⟩
theorem Mth.paren (h : Mth a0 b0 n P Ws cmp 1 x2 x4) (hd : dpt Ws ≤ 4) : Mth a0 b0 (n + 1) P (16 :: Ws) (fun d => if d = dpt Ws + 1 then 0 else cmp d) 1 1 0 := by
  obtain ⟨h1, h2, h3, h4, h5, h6, h7⟩ := h
  have dp : dpt (16 :: Ws) = dpt Ws + 1 := rfl
  refine ⟨h1.paren, by omega, fun d hd' => ?_, by rw [List.length_cons]; omega, by rw [List.length_cons]; omega, h6, fun _ => ⟨by decide, by decide, fun _ => ⟨Nat.zero_le _, Nat.zero_le _⟩⟩⟩
  dsimp only
  by_cases z : d = dpt Ws + 1
  · rw [if_pos z]; decide
  · rw [if_neg z]; exact h3 d (by omega)
theorem Mth.nots (h : Mth a0 b0 n P Ws cmp 1 1 x4) (hx : x4 < 6) : Mth a0 b0 (n + 1) P (9 :: Ws) cmp 1 1 (x4 + 1) := by
  obtain ⟨h1, h2, h3, h4, h5, h6, h7⟩ := h
  obtain ⟨_, _, h8⟩ := h7 rfl
  obtain ⟨h9, h10⟩ := h8 rfl
  obtain ⟨g1, g2, g3⟩ := h1.nots h9 h10 hx
  exact ⟨g1, h2, h3, by rw [List.length_cons]; omega, by rw [List.length_cons]; omega, h6, fun _ => ⟨by decide, by omega, fun _ => ⟨g2, g3⟩⟩⟩
theorem Mth.val {c : Int32} {y2 y4 : Nat} (h : Mth a0 b0 n P Ws cmp 1 x2 x4) (hc : ¬ c < -6) (he : (enc c).length = 2) : Mth a0 b0 (n + 1) (P ++ [c]) Ws cmp 0 y2 y4 := by
  obtain ⟨h1, h2, h3, h4, h5, h6, h7⟩ := h
  obtain ⟨l1, l2⟩ := h1.len
  have tp := h1.top.2
  have en : (encL (P ++ [c])).length = (encL P).length + 2 := by
    rw [encL_app, encL, encL, List.append_nil, List.length_append, he]
  exact ⟨h1, h2, h3, by rw [List.length_append, List.length_singleton]; omega, by omega, h6.val (by omega) hc, fun z => absurd z (by decide)⟩
theorem Mth.join {k : Nat} (h : Mth a0 b0 n P Ws cmp 0 x2 x4) (h7 : 7 ≤ k) (h16 : k < 16) (h9 : k ≠ 9) : Mth a0 b0 (n + 1) (P ++ (fls (prk k) Ws).1.map cc) (k :: (fls (prk k) Ws).2) (cmq k (dpt Ws) cmp) 1 (if k = 7 ∨ k = 8 then 1 else 0) 0 := by
  obtain ⟨h1, h2, h3, h4, h5, h6, h8⟩ := h
  obtain ⟨_, _, _, _, _, c6⟩ := ccs k (by omega) h7
  obtain ⟨_, p0⟩ := c6 (by omega)
  have dj := dpt_join (Ws := Ws) h7 h16
  have w := h1.push h7 h16 h9
  have fl := fls_len (prk k) Ws
  have el := encL_fls (p := prk k) (P := P) h1.vld
  refine ⟨w, by omega, fun d hd => ?_, ?_, ?_, ?_, fun _ => ⟨by split <;> decide, by decide, fun z => ?_⟩⟩
  · rw [dj] at hd
    unfold cmq
    by_cases z : d = dpt Ws
    · rw [if_pos z]
      repeat' split
      · decide
      · decide
      · exact h3 d hd
    · rw [if_neg z]; exact h3 d hd
  · rw [List.length_append, List.length_map, List.length_cons]; omega
  · rw [List.length_cons]; omega
  · have := h6.flush h1 p0
    rw [show bns (k :: (fls (prk k) Ws).2) + (1 - 1) = bns (fls (prk k) Ws).2 + 1 by rw [bns, if_neg (by omega)]]
    exact this
  · have q : k = 7 ∨ k = 8 := by
      by_cases q : k = 7 ∨ k = 8
      · exact q
      · rw [if_neg q] at z
        omega
    obtain ⟨_, _, a1, a2, _⟩ := w
    have : hb (prk k) ≤ 2 ∧ hb2 (prk k) ≤ 2 := by rcases q with rfl | rfl <;> decide
    omega
theorem Mth.close {Vs : List Nat} {y2 y4 : Nat} (h : Mth a0 b0 n P Ws cmp 0 x2 x4) (hv : (fls 1 Ws).2 = 16 :: Vs) (hd : dpt Ws = dpt Vs + 1) : Mth a0 b0 (n + 1) (P ++ (fls 1 Ws).1.map cc) Vs cmp 0 y2 y4 := by
  obtain ⟨h1, h2, h3, h4, h5, h6, h8⟩ := h
  have fl := fls_len 1 Ws
  have el := encL_fls (p := 1) (P := P) h1.vld
  have w := fls_wf (p := 1) h1
  have ev := h6.flush h1 (p := 1) (by decide)
  rw [hv] at fl el w ev
  rw [List.length_cons] at fl el
  refine ⟨w.2.2.2.2, by omega, fun d hd' => h3 d (by omega), ?_, by omega, ?_, fun z => absurd z (by decide)⟩
  · rw [List.length_append, List.length_map]; omega
  · have e : bns (16 :: Vs) = bns Vs := rfl
    rw [e] at ev
    exact ev
end MTH
/-- both, at a token -/
def Both (t : Nat → Nat) (E a0 b0 : Nat) (P : List Int32) (Ws : List Nat) (cmp : Nat → Nat) (due x2 x4 s e kd v sg W : Nat) (I K : Nat → Nat → Int32) (J : Nat → Nat → Int64) : Prop := TC t E I ∧ WZ I ∧ WC I ∧ CT s e kd v sg I ∧ PC a0 P Ws cmp due x2 x4 I ∧ TM t E K ∧ MT s e kd v sg W K J ∧ PMd b0 P Ws cmp K ∧ Tok E s e kd v sg W ∧ Mth a0 b0 s P Ws cmp due x2 x4
def ResA (E a0 b0 D s0 : Nat) (I K : Nat → Nat → Int32) (J : Nat → Nat → Int64) (Y : Option (Int32 × (Nat → Nat → Int32) × Nat)) (X : Option ((Nat → Nat → Int32) × (Nat → Nat → Int64))) : Prop := ∃ P s e v W I' K' J', Y = some (0, up I' 69 D (nI (a0 + P.length)), W) ∧ X = some (K', J') ∧ Kc a0 I I' ∧ Vm b0 K K' ∧ UJ J J' ∧ CT s e 3 v 59 I' ∧ MT s e 3 v 59 W K' J' ∧ Tok E s e 3 v 59 W ∧ I' 67 7 = nI (a0 + P.length) ∧ Row (I' 68) a0 P ∧ K' 97 12 = nI 0 ∧ K' 97 29 = nI (b0 + (encL P).length + 1) ∧ Row (K' 107) b0 (encL P ++ [0]) ∧ EVP P 1 ∧ a0 + P.length ≤ s ∧ b0 + (encL P).length ≤ 2 * s ∧ s0 ≤ s
def ResB (E : Nat) (I K : Nat → Nat → Int32) (J : Nat → Nat → Int64) (Y : Option (Int32 × (Nat → Nat → Int32) × Nat)) (X : Option ((Nat → Nat → Int32) × (Nat → Nat → Int64))) : Prop := ∃ r s e kd v sg W I' K' J', 0 < r ∧ r < 10 ∧ Y = some (nI r, I', W) ∧ X = some (K', J') ∧ Kc 0 I I' ∧ Vm 0 K K' ∧ UJ J J' ∧ CT s e kd v sg I' ∧ ((K' 97 12 = nI r ∧ K' 97 13 = nI s) ∨ (r = 1 ∧ K' 97 12 = nI 0 ∧ MT s e kd v sg W K' J' ∧ Tok E s e kd v sg W ∧ sg ≠ 59))
def Res (E a0 b0 D s0 : Nat) (I K : Nat → Nat → Int32) (J : Nat → Nat → Int64) (Y : Option (Int32 × (Nat → Nat → Int32) × Nat)) (X : Option ((Nat → Nat → Int32) × (Nat → Nat → Int64))) : Prop := ResA E a0 b0 D s0 I K J Y X ∨ ResB E I K J Y X
theorem Res.step {E a0 b0 D s0 s1 y z : Nat} {I I1 K K1 : Nat → Nat → Int32} {J J1 : Nat → Nat → Int64} {Y : Option (Int32 × (Nat → Nat → Int32) × Nat)} {X : Option ((Nat → Nat → Int32) × (Nat → Nat → Int64))} (h : Res E a0 b0 D s1 I1 K1 J1 Y X) (hs : s0 ≤ s1) (u : Kc y I I1) (hy : a0 ≤ y) (v : Vm z K K1) (hz : b0 ≤ z) (j : UJ J J1) : Res E a0 b0 D s0 I K J Y X := by
  rcases h with ⟨P, s, e, v', W, I', K', J', a1, a2, a3, a4, a5, p1, p2, p3, p4, p5, p6, p7, p8, p9, q1, q2, q3⟩ | ⟨r, s, e, kd, v', sg, W, I', K', J', r1, r2, a1, a2, a3, a4, a5, q⟩
  · exact Or.inl ⟨P, s, e, v', W, I', K', J', a1, a2, (u.mono hy).trans a3 (Nat.le_refl _), (v.mono hz).trans a4 (Nat.le_refl _), j.trans a5, p1, p2, p3, p4, p5, p6, p7, p8, p9, q1, q2, Nat.le_trans hs q3⟩
  · exact Or.inr ⟨r, s, e, kd, v', sg, W, I', K', J', r1, r2, a1, a2, (u.mono (Nat.zero_le _)).trans a3 (Nat.le_refl _), (v.mono (Nat.zero_le _)).trans a4 (Nat.le_refl _), j.trans a5, q⟩
