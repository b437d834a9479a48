/-! wished, fewest -/
section WI
variable {C H N M w : Nat} {K S : Nat → Nat} {Y : Nat → Nat → Nat} {I : Nat → Nat → Int32}
theorem pow_le6 {H m : Nat} (hH : H ≤ 6) (hm : m ≤ 5) : H ^ m ≤ 7776 := by
  have h1 : H ^ m ≤ 6 ^ m := Nat.pow_le_pow_left hH m
  have h2 : 6 ^ m ≤ 6 ^ 5 := Nat.pow_le_pow_right (by decide) hm
  have h3 : (6 : Nat) ^ 5 = 7776 := by decide
  omega
/-- the class seeks: m deals are left -/
theorem seek_s : ∀ (m f s r wt n0 f0 : Nat) (T : Nat → Prop) (I : Nat → Nat → Int32), m ≤ 5 → m < f → SetP C H N M w K S Y I → s < 2 ^ 60 → (m = 0 → ∀ p, p < C → s.testBit p = true) → I 84 3 = nI n0 → I 84 4 = nI f0 → FT T n0 f0 → n0 + H ^ m ≤ 10000 → f0 < 1000000 → r < wt → wt * 6 ^ m ≤ 7776 → ∃ I' f1, fx (fun _ _ _ _ _ => none) fb_85 f (nI m - nI 1) (lN s) (nI r) (nI wt) I = some I' ∧ Keep I I' ∧ I' 84 2 = I 84 2 ∧ I' 84 3 = nI (n0 + NR C H (max N 1) K S m s (H ^ m)) ∧ I' 84 4 = nI f1 ∧ f1 < 1000000 ∧ FT (fun c => T c ∨ ∃ c', CS C H (max N 1) K S m s c' ∧ c = r + wt * c') (n0 + NR C H (max N 1) K S m s (H ^ m)) f1 := by
  intro m
  induction m with
  | zero =>
    intro f s r wt n0 f0 T I _ hf h hs h0 h3 h4 hT hn hf0 hr hw
    cases f with
    | zero => omega
    | succ f =>
      rw [Nat.pow_zero] at hw hn
      have gd : Gd C H (max N 1) K S 0 s 0 := fun p hp => h0 rfl p hp
      have nr : NR C H (max N 1) K S 0 s (H ^ 0) = 1 := by
        rw [Nat.pow_zero, NR, NR, if_pos gd]
      obtain ⟨I', f1, e1, e2, e3, e4, e5, e6, e7⟩ := leaf_s (r := r) h3 h4 hT (by omega) hf0 (by omega) (fx (fun _ _ _ _ _ => none) fb_85 f) (lN s) (nI wt)
      refine ⟨I', f1, e1, e2, e3, by rw [nr]; exact e4, e5, e6, ?_⟩
      rw [nr]
      refine e7.ext fun c => ?_
      constructor
      · rintro (hc | ⟨c', ⟨row, _, _, hc'⟩, hc⟩)
        · exact Or.inl hc
        · rw [cd6] at hc'
          rw [hc', Nat.mul_zero, Nat.add_zero] at hc
          exact Or.inr hc
      · rintro (hc | hc)
        · exact Or.inl hc
        · exact Or.inr ⟨0, ⟨0, by rw [Nat.pow_zero]; decide, gd, rfl⟩, by rw [hc, Nat.mul_zero, Nat.add_zero]⟩
  | succ m ih =>
    intro f s r wt n0 f0 T I hm5 hf h hs _ h3 h4 hT hn hf0 hr hw
    cases f with
    | zero => omega
    | succ f =>
      have hC := h.ch
      obtain ⟨c1, c2, c3, c4⟩ := h.ch
      have pm := pow_le6 (m := m) c2 (by omega)
      have pm1 := pow_le6 (m := m + 1) c2 hm5
      have six : 6 ^ (m + 1) = 6 ^ m * 6 := Nat.pow_succ 6 m
      have sp : 0 < 6 ^ m := Nat.pow_pos (by decide)
      have xd : nI (m + 1) - nI 1 = nI m := subN (by omega)
      have wt6 : wt * 6 ^ (m + 1) = wt * 6 * 6 ^ m := by rw [six, Nat.mul_comm (6 ^ m) 6, Nat.mul_assoc]
      have wle : wt * 6 ≤ wt * 6 * 6 ^ m := Nat.le_mul_of_pos_right _ sp
      -- the loop over layings
      have loop : ∀ (j l g n1 f1 : Nat) (T1 : Nat → Prop) (I : Nat → Nat → Int32), l + j = H → j < g → SetP C H N M w K S Y I → I 84 3 = nI n1 → I 84 4 = nI f1 → FT T1 n1 f1 → n1 + j * H ^ m ≤ 10000 → f1 < 1000000 → ∃ I' f2, fx (fun _ _ _ _ _ _ _ => none) (bd_85_4 (fx (fun _ _ _ _ _ => none) fb_85 f)) g (nI m) (lN s) (nI r) (nI wt) (nI (H ^ m)) (nI l) I = some I' ∧ Keep I I' ∧ I' 84 2 = I 84 2 ∧ ∃ n2, I' 84 3 = nI n2 ∧ n1 + sr (fun x => NR C H (max N 1) K S m (cfB (fl1 C H (max N 1) K S m x) s C) (H ^ m)) H = n2 + sr (fun x => NR C H (max N 1) K S m (cfB (fl1 C H (max N 1) K S m x) s C) (H ^ m)) l ∧ I' 84 4 = nI f2 ∧ f2 < 1000000 ∧ FT (fun c => T1 c ∨ ∃ x c', l ≤ x ∧ x < H ∧ CS C H (max N 1) K S m (cfB (fl1 C H (max N 1) K S m x) s C) c' ∧ c = r + wt * (c' * 6 + x)) n2 f2 := by
        intro j
        induction j with
        | zero =>
          intro l g n1 f1 T1 I e hg h h3 h4 hT hn hf1
          cases g with
          | zero => omega
          | succ g =>
            obtain rfl : l = H := by omega
            refine ⟨I, f1, ?_, Keep.refl I, rfl, n1, h3, rfl, h4, hf1, hT.ext fun c => ?_⟩
            · rw [fx_s, bd_85_4, h.i5, if_neg (Int32.lt_irrefl (a := nI l))]
            · constructor
              · rintro (hc | ⟨x, c', a, b, _⟩)
                · exact hc
                · omega
              · exact fun hc => Or.inl hc
        | succ j ihj =>
          intro l g n1 f1 T1 I e hg h h3 h4 hT hn hf1
          cases g with
          | zero => omega
          | succ g =>
            have hl : l < H := by omega
            rw [Nat.succ_mul] at hn
            obtain ⟨I1, r1, r2, r3⟩ := f86_s h (d := m) (l := l) (s := s) (by omega) hl hs
            have h1 := h.keep r2
            have cl : cfB (fl1 C H (max N 1) K S m l) s C < 2 ^ 60 := Nat.lt_of_lt_of_le (cfB_lt _ s C) (Nat.pow_le_pow_right (by decide) c4)
            have p60 := pc_le 60 64 _ cl
            have pb : pc 64 (cfB (fl1 C H (max N 1) K S m l) s C) * H ^ m ≤ 60 * 7776 := Nat.mul_le_mul p60 pm
            have s210 := f210_s (n := cfB (fl1 C H (max N 1) K S m l) s C) (by omega)
            have srl : sr (fun x => NR C H (max N 1) K S m (cfB (fl1 C H (max N 1) K S m x) s C) (H ^ m)) (l + 1) = sr (fun x => NR C H (max N 1) K S m (cfB (fl1 C H (max N 1) K S m x) s C) (H ^ m)) l + NR C H (max N 1) K S m (cfB (fl1 C H (max N 1) K S m l) s C) (H ^ m) := rfl
            have head : fx (fun _ _ _ _ _ _ _ => none) (bd_85_4 (fx (fun _ _ _ _ _ => none) fb_85 f)) (g + 1) (nI m) (lN s) (nI r) (nI wt) (nI (H ^ m)) (nI l) I = if pc 64 (cfB (fl1 C H (max N 1) K S m l) s C) * H ^ m < C then fx (fun _ _ _ _ _ _ _ => none) (bd_85_4 (fx (fun _ _ _ _ _ => none) fb_85 f)) g (nI m) (lN s) (nI r) (nI wt) (nI (H ^ m)) (nI (l + 1)) I1 else (fx (fun _ _ _ _ _ => none) fb_85 f (nI m - nI 1) (lN (cfB (fl1 C H (max N 1) K S m l) s C)) (nI (r + l * wt)) (nI (wt * 6)) I1).bind fun q4 => fx (fun _ _ _ _ _ _ _ => none) (bd_85_4 (fx (fun _ _ _ _ _ => none) fb_85 f)) g (nI m) (lN s) (nI r) (nI wt) (nI (H ^ m)) (nI (l + 1)) q4 := by
              rw [fx_s, bd_85_4, h.i5, if_pos ((ltN (by omega) (by omega)).mpr hl), r1, Option.bind_some]
              unfold lb_85_5
              simp (disch := omega) only [s210, Option.bind_some, lits, mulN, h1.i4, ltN, addN]
            by_cases q : pc 64 (cfB (fl1 C H (max N 1) K S m l) s C) * H ^ m < C
            · have no : ∀ row, ¬ Gd C H (max N 1) K S m (cfB (fl1 C H (max N 1) K S m l) s C) row := fun row hg => by
                have := Gd_pc hC m _ row hg
                omega
              have z := NR_zero (C := C) (H := H) (R := max N 1) (K := K) (S := S) (m := m) (s := cfB (fl1 C H (max N 1) K S m l) s C) (H ^ m) (fun row _ => no row)
              obtain ⟨I', f2, a1, a2, a3, n2, a4, a5, a6, a7, a8⟩ := ihj (l + 1) g n1 f1 T1 I1 (by omega) (by omega) h1 (by rw [r3]; exact h3) (by rw [r3]; exact h4) hT (by omega) hf1
              refine ⟨I', f2, by rw [head, if_pos q]; exact a1, r2.trans a2, by rw [a3, r3], n2, a4, by omega, a6, a7, a8.ext fun c => ?_⟩
              constructor
              · rintro (hc | ⟨x, c', b1, b2, b3, b4⟩)
                · exact Or.inl hc
                · by_cases y : x = l
                  · rw [y] at b3
                    obtain ⟨row, _, b5, _⟩ := b3
                    exact absurd b5 (no row)
                  · exact Or.inr ⟨x, c', by omega, b2, b3, b4⟩
              · rintro (hc | ⟨x, c', b1, b2, b3, b4⟩)
                · exact Or.inl hc
                · exact Or.inr ⟨x, c', by omega, b2, b3, b4⟩
            · have lw : l * wt ≤ 5 * wt := Nat.mul_le_mul_right wt (by omega)
              have w1 : wt ≤ wt * 6 ^ m := Nat.le_mul_of_pos_right _ sp
              have w2 : wt * 6 * 6 ^ m = 6 * (wt * 6 ^ m) := by rw [Nat.mul_comm wt 6, Nat.mul_assoc]
              have nrl := NR_le (C := C) (H := H) (R := max N 1) (K := K) (S := S) (m := m) (s := cfB (fl1 C H (max N 1) K S m l) s C) (H ^ m)
              have full : m = 0 → ∀ p, p < C → (cfB (fl1 C H (max N 1) K S m l) s C).testBit p = true := by
                intro hm0 p hp'
                rw [hm0, Nat.pow_zero, Nat.mul_one] at q
                cases z : (cfB (fl1 C H (max N 1) K S m l) s C).testBit p with
                | true => rfl
                | false =>
                  exfalso
                  have o := pc_or (n := cfB (fl1 C H (max N 1) K S m l) s C) (q := p) (by omega) z
                  have lt : cfB (fl1 C H (max N 1) K S m l) s C ||| 2 ^ p < 2 ^ C := Nat.or_lt_two_pow (cfB_lt _ s C) (Nat.pow_lt_pow_right (by decide) hp')
                  have := pc_le C 64 _ lt
                  rw [hm0] at o this
                  omega
              obtain ⟨I2, f2, a1, a2, a3, a4, a5, a6, a7⟩ := ih f (cfB (fl1 C H (max N 1) K S m l) s C) (r + l * wt) (wt * 6) n1 f1 T1 I1 (by omega) (by omega) h1 cl full (by rw [r3]; exact h3) (by rw [r3]; exact h4) hT (by omega) hf1 (by omega) (by omega)
              obtain ⟨I', f3, b1, b2, b3, n2, b4, b5, b6, b7, b8⟩ := ihj (l + 1) g _ f2 _ I2 (by omega) (by omega) (h1.keep a2) a4 a5 a7 (by omega) a6
              refine ⟨I', f3, by rw [head, if_neg q, a1, Option.bind_some]; exact b1, (r2.trans a2).trans b2, by rw [b3, a3, r3], n2, b4, by omega, b6, b7, b8.ext fun c => ?_⟩
              constructor
              · rintro (hc | ⟨x, c', d1, d2, d3, d4⟩)
                · exact Or.inl (Or.inl hc)
                · by_cases y : x = l
                  · rw [y] at d3 d4
                    refine Or.inl (Or.inr ⟨c', d3, ?_⟩)
                    rw [d4, Nat.mul_add, Nat.mul_comm l wt, Nat.mul_comm c' 6, ← Nat.mul_assoc]
                    omega
                  · exact Or.inr ⟨x, c', by omega, d2, d3, d4⟩
              · rintro ((hc | ⟨c', d3, d4⟩) | ⟨x, c', d1, d2, d3, d4⟩)
                · exact Or.inl hc
                · refine Or.inr ⟨l, c', Nat.le_refl l, hl, d3, ?_⟩
                  rw [d4, Nat.mul_add, Nat.mul_comm l wt, Nat.mul_comm c' 6, ← Nat.mul_assoc]
                  omega
                · exact Or.inr ⟨x, c', by omega, d2, d3, d4⟩
      have e123 := f123_s (a := H) (n := m) c2 (by omega)
      have hH : H * H ^ m = H ^ (m + 1) := by rw [Nat.pow_succ, Nat.mul_comm]
      obtain ⟨I', f2, a1, a2, a3, n2, a4, a5, a6, a7, a8⟩ := loop H 0 FU n0 f0 T I (by omega) (FU_big (by omega)) h h3 h4 hT (by rw [hH]; exact hn) hf0
      have ns := NR_split (R := max N 1) (K := K) (S := S) hC (m := m) (s := s) (H ^ m)
      rw [hH] at ns
      have z0 : sr (fun x => NR C H (max N 1) K S m (cfB (fl1 C H (max N 1) K S m x) s C) (H ^ m)) 0 = 0 := rfl
      have en : n2 = n0 + NR C H (max N 1) K S (m + 1) s (H ^ (m + 1)) := by
        rw [ns]
        omega
      refine ⟨I', f2, ?_, a2, a3, by rw [← en]; exact a4, a6, a7, ?_⟩
      · rw [xd, fx_s, fb_85, if_neg (show ¬ nI m < 0 from negN (by omega)), h.i5, e123, Option.bind_some]
        exact a1
      · rw [← en]
        refine a8.ext fun c => ?_
        constructor
        · rintro (hc | ⟨c', hc', e⟩)
          · exact Or.inl hc
          · obtain ⟨l, c2', l1, l2, l3⟩ := (CS_s hC).mp hc'
            exact Or.inr ⟨l, c2', Nat.zero_le l, l1, l2, by rw [e, l3]⟩
        · rintro (hc | ⟨x, c', d1, d2, d3, d4⟩)
          · exact Or.inl hc
          · exact Or.inr ⟨c' * 6 + x, (CS_s hC).mpr ⟨x, c', d2, d3, rfl⟩, d4⟩
/-- rows for a place -/
theorem f82_s (h : SetP C H N M w K S Y I) {p n : Nat} (hp' : p < C) (hn1 : 1 ≤ n) (hn : n ≤ 5) : ∃ I' f1, f_82 (nI p) (nI n) I = some (nI (NR C H (max N 1) K S n (2 ^ p) (H ^ n)), I') ∧ Keep I I' ∧ I' 84 2 = nI n ∧ I' 84 4 = nI f1 ∧ FT (CS C H (max N 1) K S n (2 ^ p)) (NR C H (max N 1) K S n (2 ^ p) (H ^ n)) f1 := by
  obtain ⟨c1, c2, c3, c4⟩ := h.ch
  have k0 : Keep I (up (up (up I 84 2 (nI n)) 84 3 (nI 0)) 84 4 (nI 0)) := by
    refine ⟨(((Fr.refl _ _).up (by decide)).up (by decide)).up (by decide), ?_, ?_, ?_, ?_, fun k _ _ => ?_⟩
    · rw [up_ne (by decide), up_ne (by decide), up_ne (by decide)]
    · rw [up_ne (by decide), up_ne (by decide), up_ne (by decide)]
    · rw [up_nk (by decide), up_nk (by decide), up_nk (by decide)]
    · rw [up_nk (by decide), up_nk (by decide), up_nk (by decide)]
    · rw [up_ne (by decide), up_ne (by decide), up_ne (by decide)]
  have pm := pow_le6 (m := n) c2 hn
  have p6 : 6 ^ n ≤ 6 ^ 5 := Nat.pow_le_pow_right (by decide) hn
  have h65 : (6 : Nat) ^ 5 = 7776 := by decide
  obtain ⟨I', f1, a1, a2, a3, a4, a5, a6, a7⟩ := seek_s n 8 (2 ^ p) 0 1 0 0 (fun _ => False) _ hn (by omega) (h.keep k0) (Nat.pow_lt_pow_right (by decide) (by omega)) (by omega) (by rw [up_nk (by decide), up_at]) up_at (Or.inl ⟨rfl, fun _ z => z⟩) (by omega) (by omega) (by omega) (by omega)
  rw [Nat.zero_add] at a4 a7
  refine ⟨I', f1, ?_, k0.trans a2, ?_, a5, ?_⟩
  · have s1 : (1 : Int64) <<< ((nI p).toInt64 &&& 63) = lN (2 ^ p) := shl1 (by omega)
    unfold f_82
    rw [s1]
    have b : f_85 (nI n - (1 : Int32)) (lN (2 ^ p)) (0 : Int32) (1 : Int32) (up (up (up I 84 2 (nI n)) 84 3 (0 : Int32)) 84 4 (0 : Int32)) = some I' := a1
    dsimp only
    rw [b, Option.bind_some, a4]
  · rw [a3, up_nk (by decide), up_nk (by decide), up_at]
  · refine a7.ext fun c => ?_
    constructor
    · intro hc
      exact Or.inr ⟨c, hc, by omega⟩
    · rintro (hc | ⟨c', hc', e⟩)
      · exact absurd hc id
      · rw [e, Nat.one_mul, Nat.zero_add]
        exact hc'
end WI
