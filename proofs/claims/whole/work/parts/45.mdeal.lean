/-! The model deals -/
/-- the model's numbers -/
def MC (C H : Nat) (I : Nat → Nat → Int32) : Prop := I 97 1 = nI C ∧ I 97 2 = nI H
def MD (C H k s : Nat) (I : Nat → Nat → Int32) : Prop := MC C H I ∧ (∀ p, p < C → I 110 p = nI (hp C H k p)) ∧ (∀ p, p < C → I 111 p = nI (off C H k s p)) ∧ (∀ h, h < H → I 112 h = nI (ct C H k C h))
theorem MD.fr {C H k s : Nat} {S : List Nat} {I I' : Nat → Nat → Int32} (h : MD C H k s I) (f : Fr S I I') (h1 : 97 ∉ S) (h2 : 110 ∉ S) (h3 : 111 ∉ S) (h4 : 112 ∉ S) : MD C H k s I' := by
  obtain ⟨⟨a, a'⟩, b, c, d⟩ := h
  exact ⟨⟨by rw [f 97 h1]; exact a, by rw [f 97 h1]; exact a'⟩, fun p hp => by rw [f 110 h2]; exact b p hp, fun p hp => by rw [f 111 h3]; exact c p hp, fun p hp => by rw [f 112 h4]; exact d p hp⟩
theorem f166_s {C H k p : Nat} {I : Nat → Nat → Int32} (hc : CH C H) (h : MC C H I) (hk : k < 3) (hp' : p < C) : f_166 (nI k) (nI p) I = some (nI (hp C H k p)) := by
  obtain ⟨c1, c2, c3, c4⟩ := hc
  obtain ⟨h4, h5⟩ := h
  have hm : C % H * (C / H + 1) < 2147483648 := by
    have a1 : C % H ≤ 60 := Nat.le_trans (Nat.mod_le _ _) c4
    have a2 : C / H + 1 ≤ 61 := by have := Nat.div_le_self C H; omega
    exact Nat.lt_of_le_of_lt (Nat.mul_le_mul a1 a2) (by decide)
  have hz : 0 < C / H := Nat.div_pos c3 (by omega)
  have hz2 : C / H ≤ C := Nat.div_le_self _ _
  have hr := Nat.mod_lt p (show 0 < 2 * H by omega)
  have z1 : ¬ H = 0 := by omega
  have z2 : ¬ 2 * H = 0 := by omega
  have z3 : ¬ C / H + 1 = 0 := by omega
  have z4 : ¬ C / H = 0 := by omega
  unfold f_166 hp lb_166_3 lb_166_6
  simp only [lits, h4, h5, mulN]
  simp (disch := omega) only [↓remN, eqN, ltN, mulN, divN, addN, subN, z1, z2, z3, z4, if_false]
  split
  · rfl
  · split
    · split <;> rfl
    · split <;> rfl
theorem md_1 (k s : Int32) : ∀ (j i n : Nat) (I : Nat → Nat → Int32), i + j = 6 → j < n → (∀ h, h < i → I 112 h = nI 0) → ∃ I', fx (fun _ _ _ _ => none) bd_167_1 n k s (nI i) I = lb_167_3 k s (nI 0) I' ∧ (∀ h, h < 6 → I' 112 h = nI 0) ∧ Fr [112] I I'
  | _, _, 0, _, _, h, _ => absurd h (Nat.not_lt_zero _)
  | 0, i, n + 1, I, e, _, h => by
    obtain rfl : i = 6 := by omega
    refine ⟨I, ?_, h, Fr.refl _ _⟩
    rw [fx_s, bd_167_1]
    simp (disch := omega) only [lits, ltN, Nat.lt_irrefl, if_false]
  | j + 1, i, n + 1, I, e, hn, h => by
    have hi : i < 6 := by omega
    obtain ⟨I', r1, r2, r3⟩ := md_1 k s j (i + 1) n (up I 112 i (nI 0)) (by omega) (by omega) (fun h' hh => by
      rw [up_eq]
      split
      · rfl
      · exact h h' (by omega))
    refine ⟨I', ?_, r2, ((Fr.refl _ _).up (by decide)).trans r3⟩
    rw [fx_s, bd_167_1, ← r1]
    simp (disch := omega) only [lits, ltN, inN, clN, addN, hi, if_true]
theorem md_2 {C H k : Nat} (s : Int32) (hc : CH C H) (hk : k < 3) : ∀ (j p n : Nat) (I : Nat → Nat → Int32), p + j = C → j < n → MC C H I → (∀ q, q < p → I 110 q = nI (hp C H k q)) → (∀ q, q < p → I 111 q = nI (ct C H k q (hp C H k q))) → (∀ h, h < H → I 112 h = nI (ct C H k p h)) → ∃ I', fx (fun _ _ _ _ => none) bd_167_3 n (nI k) s (nI p) I = lb_167_5 s (nI 0) I' ∧ (∀ q, q < C → I' 110 q = nI (hp C H k q)) ∧ (∀ q, q < C → I' 111 q = nI (ct C H k q (hp C H k q))) ∧ (∀ h, h < H → I' 112 h = nI (ct C H k C h)) ∧ Fr [110, 111, 112] I I'
  | _, _, 0, _, _, h, _, _, _, _ => absurd h (Nat.not_lt_zero _)
  | 0, p, n + 1, I, e, _, hm, h1, h2, h3 => by
    have c4 := hc.2.2.2
    obtain rfl : p = C := by omega
    refine ⟨I, ?_, h1, h2, h3, Fr.refl _ _⟩
    rw [fx_s, bd_167_3]
    simp (disch := omega) only [hm.1, lits, ltN, Nat.lt_irrefl, if_false]
  | j + 1, p, n + 1, I, e, hn, hm, h1, h2, h3 => by
    have hC := hc
    obtain ⟨c1, c2, c3, c4⟩ := hc
    have hp' : p < C := by omega
    have hp6 : p < 60 := by omega
    have hl := hp_lt (k := k) c1 c3 hp'
    have hl6 : hp C H k p < 6 := by omega
    have s1 := h3 _ hl
    obtain ⟨I', r1, r2, r3, r4, r5⟩ := md_2 s hC hk j (p + 1) n (up (up (up I 110 p (nI (hp C H k p))) 111 p (nI (ct C H k p (hp C H k p)))) 112 (hp C H k p) (nI (ct C H k p (hp C H k p) + 1))) (by omega) (by omega) ⟨by
        rw [up_ne (by decide), up_ne (by decide), up_ne (by decide)]; exact hm.1, by
        rw [up_ne (by decide), up_ne (by decide), up_ne (by decide)]; exact hm.2⟩ (fun q hq => by
        rw [up_ne (by decide), up_ne (by decide), up_eq]
        split
        · next e => rw [e]
        · exact h1 q (by omega)) (fun q hq => by
        rw [up_ne (by decide), up_eq]
        split
        · next e => rw [e]
        · rw [up_ne (by decide)]; exact h2 q (by omega)) (fun h hh => by
        rw [up_eq]
        split
        · next e => rw [e, ct, if_pos rfl]
        · next e =>
          rw [up_ne (by decide), up_ne (by decide), h3 h hh, ct, if_neg (fun w => e w.symm), Nat.add_zero])
    refine ⟨I', ?_, r2, r3, r4, fun x hx => ?_⟩
    · rw [fx_s, bd_167_3, ← r1, hm.1, f166_s hC hm hk hp']
      simp (disch := omega) only [lits, ltN, inN, clN, addN, hp', hp6, hl6, if_true, Option.bind_some, up_at, up_ne, s1]
    · have x1 : x ≠ 110 := fun e => hx (by rw [e]; decide)
      have x2 : x ≠ 111 := fun e => hx (by rw [e]; decide)
      have x3 : x ≠ 112 := fun e => hx (by rw [e]; decide)
      rw [r5 x hx, up_ne x3, up_ne x2, up_ne x1]
theorem md_3 {C H k : Nat} (hc : CH C H) (hk : k < 3) : ∀ (j p n : Nat) (I : Nat → Nat → Int32), p + j = C → j < n → MC C H I → (∀ q, q < C → I 110 q = nI (hp C H k q)) → (∀ q, q < C → I 111 q = nI (if q < p then off C H k 1 q else ct C H k q (hp C H k q))) → (∀ h, h < H → I 112 h = nI (ct C H k C h)) → ∃ I', fx (fun _ _ _ => none) bd_167_5 n (nI 1) (nI p) I = some I' ∧ (∀ q, q < C → I' 111 q = nI (off C H k 1 q)) ∧ Fr [111] I I'
  | _, _, 0, _, _, h, _, _, _, _ => absurd h (Nat.not_lt_zero _)
  | 0, p, n + 1, I, e, _, hm, h1, h2, h3 => by
    have c4 := hc.2.2.2
    obtain rfl : p = C := by omega
    refine ⟨I, ?_, fun q hq => by rw [h2 q hq, if_pos hq], Fr.refl _ _⟩
    rw [fx_s, bd_167_5]
    unfold lb_167_6
    simp (disch := omega) only [hm.1, lits, ltN, Nat.lt_irrefl, if_false]
  | j + 1, p, n + 1, I, e, hn, hm, h1, h2, h3 => by
    have hC := hc
    obtain ⟨c1, c2, c3, c4⟩ := hc
    have hp' : p < C := by omega
    have hp6 : p < 60 := by omega
    have hl := hp_lt (k := k) c1 c3 hp'
    have hl6 : hp C H k p < 6 := by omega
    have s1 := h3 _ hl
    have s2 := h1 p hp'
    have s3 := h2 p hp'
    rw [if_neg (Nat.lt_irrefl p)] at s3
    have h5 := ct_lt (C := C) (H := H) (k := k) hp'
    have h8 := ct_le C H k (hp C H k p) C
    obtain ⟨I', r1, r2, r3⟩ := md_3 hC hk j (p + 1) n (up I 111 p (nI (ct C H k C (hp C H k p) - 1 - ct C H k p (hp C H k p)))) (by omega) (by omega) ⟨by
        rw [up_ne (by decide)]; exact hm.1, by
        rw [up_ne (by decide)]; exact hm.2⟩ (fun q hq => by
        rw [up_ne (by decide)]; exact h1 q hq) (fun q hq => by
        rw [up_eq]
        split
        · next e =>
          rw [e, if_pos (by omega), off, if_pos rfl]
        · rw [h2 q hq]
          by_cases w : q < p
          · rw [if_pos w, if_pos (by omega)]
          · rw [if_neg w, if_neg (by omega)]) (fun h hh => by
        rw [up_ne (by decide)]; exact h3 h hh)
    refine ⟨I', ?_, r2, ((Fr.refl _ _).up (by decide)).trans r3⟩
    rw [fx_s, bd_167_5, ← r1]
    simp (disch := omega) only [hm.1, lits, ltN, inN, clN, addN, subN, hp', hp6, hl6, if_true, s1, s2, s3]
/-- the model deals: tables for a kind and a side -/
theorem f167_s {C H k s : Nat} {I : Nat → Nat → Int32} (hc : CH C H) (hk : k < 3) (hs : s < 2) (hm : MC C H I) : ∃ I', f_167 (nI k) (nI s) I = some I' ∧ MD C H k s I' ∧ Fr [110, 111, 112] I I' := by
  have c4 := hc.2.2.2
  have c2 := hc.2.1
  obtain ⟨I1, a1, a2, a3⟩ := md_1 (nI k) (nI s) 6 0 FU I rfl (FU_big (by decide)) (fun h hh => absurd hh (Nat.not_lt_zero _))
  obtain ⟨I2, b1, b2, b3, b4, b5⟩ := md_2 (nI s) hc hk C 0 FU I1 (by omega) (FU_big (by omega)) ⟨by rw [a3 97 (by decide)]; exact hm.1, by rw [a3 97 (by decide)]; exact hm.2⟩ (fun q hq => absurd hq (Nat.not_lt_zero _)) (fun q hq => absurd hq (Nat.not_lt_zero _)) (fun h hh => by rw [a2 h (by omega), ct])
  have fr12 : Fr [110, 111, 112] I I2 := (a3.mono (by decide)).trans b5
  have hm2 : MC C H I2 := ⟨by rw [fr12 97 (by decide)]; exact hm.1, by rw [fr12 97 (by decide)]; exact hm.2⟩
  have e : f_167 (nI k) (nI s) I = lb_167_5 (nI s) (nI 0) I2 := by
    show fx _ bd_167_1 FU (nI k) (nI s) (nI 0) I = _
    rw [a1]
    show fx _ bd_167_3 FU (nI k) (nI s) (nI 0) I1 = _
    rw [b1]
  by_cases q : s = 1
  · subst q
    obtain ⟨I', r1, r2, r3⟩ := md_3 hc hk C 0 FU I2 (by omega) (FU_big (by omega)) hm2 b2 (fun q hq => by rw [b3 q hq, if_neg (by omega)]) b4
    refine ⟨I', ?_, ⟨⟨by rw [r3 97 (by decide)]; exact hm2.1, by rw [r3 97 (by decide)]; exact hm2.2⟩, fun p hp => by rw [r3 110 (by decide)]; exact b2 p hp, r2, fun h hh => by rw [r3 112 (by decide)]; exact b4 h hh⟩, fr12.trans (r3.mono (by decide))⟩
    rw [e]
    exact r1
  · refine ⟨I2, ?_, ⟨hm2, b2, fun p hp => ?_, b4⟩, fr12⟩
    · rw [e]
      show fx _ bd_167_5 FU (nI s) (nI 0) I2 = _
      have : FU = (FU - 1) + 1 := by
        have := FU_big (n := 1) (by decide)
        omega
      rw [this, fx_s, bd_167_5]
      unfold lb_167_6
      simp (disch := omega) only [hm2.1, lits, ltN, eqN, q, if_false]
      split <;> rfl
    · rw [b3 p hp, off, if_neg q]
