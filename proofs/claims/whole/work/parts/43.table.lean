/-! The class's tables of heaps, and layings -/
/-- tables as they must be -/
def DT (C H : Nat) (I : Nat → Nat → Int32) : Prop := I 74 4 = nI C ∧ I 74 5 = nI H ∧ (∀ k p, k < 3 → p < C → I 75 (k * 60 + p) = nI (hp C H k p)) ∧ (∀ k p, k < 3 → p < C → I 76 (k * 60 + p) = nI (ct C H k p (hp C H k p))) ∧ (∀ k h, k < 3 → h < H → I 77 (k * 6 + h) = nI (ct C H k C h))
theorem DT.fr {C H : Nat} {I I' : Nat → Nat → Int32} (h : DT C H I) (e4 : I' 74 4 = I 74 4) (e5 : I' 74 5 = I 74 5) (e75 : I' 75 = I 75) (e76 : I' 76 = I 76) (e77 : I' 77 = I 77) : DT C H I' := by
  obtain ⟨a, b, c, d, e⟩ := h
  exact ⟨e4.trans a, e5.trans b, fun k p hk hp => by rw [e75]; exact c k p hk hp, fun k p hk hp => by rw [e76]; exact d k p hk hp, fun k p hk hp => by rw [e77]; exact e k p hk hp⟩
/-- on the way -/
def FI (C H k p : Nat) (I : Nat → Nat → Int32) : Prop := I 74 4 = nI C ∧ I 74 5 = nI H ∧ (∀ k' p', k' < 3 → p' < C → (k' < k ∨ k' = k ∧ p' < p) → I 75 (k' * 60 + p') = nI (hp C H k' p')) ∧ (∀ k' p', k' < 3 → p' < C → (k' < k ∨ k' = k ∧ p' < p) → I 76 (k' * 60 + p') = nI (ct C H k' p' (hp C H k' p'))) ∧ (∀ k' h, k' < 3 → h < H → I 77 (k' * 6 + h) = nI (if k' < k then ct C H k' C h else if k' = k then ct C H k p h else 0))
theorem FI_step {C H k p : Nat} {I : Nat → Nat → Int32} (hc : CH C H) (hk : k < 3) (hp' : p < C) (h : FI C H k p I) : FI C H k (p + 1) (up (up (up I 75 (k * 60 + p) (nI (hp C H k p))) 76 (k * 60 + p) (nI (ct C H k p (hp C H k p)))) 77 (k * 6 + hp C H k p) (nI (ct C H k p (hp C H k p) + 1))) := by
  obtain ⟨a, b, c, d, e⟩ := h
  obtain ⟨c1, c2, c3, c4⟩ := hc
  have hl := hp_lt (k := k) c1 c3 hp'
  refine ⟨?_, ?_, ?_, ?_, ?_⟩
  · rw [up_ne (by decide), up_ne (by decide), up_ne (by decide)]; exact a
  · rw [up_ne (by decide), up_ne (by decide), up_ne (by decide)]; exact b
  · intro k' p' h1 h2 h3
    rw [up_ne (by decide), up_ne (by decide), up_eq]
    split
    · next q =>
      obtain ⟨rfl, rfl⟩ : k' = k ∧ p' = p := by omega
      rfl
    · exact c k' p' h1 h2 (by omega)
  · intro k' p' h1 h2 h3
    rw [up_ne (by decide), up_eq]
    split
    · next q =>
      obtain ⟨rfl, rfl⟩ : k' = k ∧ p' = p := by omega
      rfl
    · rw [up_ne (by decide)]
      exact d k' p' h1 h2 (by omega)
  · intro k' h' h1 h2
    rw [up_eq]
    split
    · next q =>
      obtain ⟨rfl, rfl⟩ : k' = k ∧ h' = hp C H k p := by omega
      rw [if_neg (by omega), if_pos rfl, ct, if_pos rfl]
    · next q =>
      rw [up_ne (by decide), up_ne (by decide), e k' h' h1 h2]
      by_cases q1 : k' < k
      · rw [if_pos q1, if_pos q1]
      · rw [if_neg q1, if_neg q1]
        by_cases q2 : k' = k
        · rw [if_pos q2, if_pos q2, ct, if_neg (by omega), Nat.add_zero]
        · rw [if_neg q2, if_neg q2]
theorem fit_in {C H k : Nat} (c1 : Int32 → Int32 → (Nat → Nat → Int32) → Option (Nat → Nat → Int32)) (hc : CH C H) (hk : k < 3) : ∀ (j p n : Nat) (I : Nat → Nat → Int32), p + j = C → j < n → FI C H k p I → ∃ I', fx (fun _ _ _ _ => none) (bd_1_2 c1) n (nI C) (nI k) (nI p) I = c1 (nI C) (nI (k + 1)) I' ∧ FI C H k C I' ∧ Fr [75, 76, 77] I I'
  | _, _, 0, _, _, h, _ => absurd h (Nat.not_lt_zero _)
  | 0, p, n + 1, I, e, _, h => by
    obtain ⟨q1, q2, q3, q4⟩ := hc
    obtain rfl : p = C := by omega
    refine ⟨I, ?_, h, Fr.refl _ _⟩
    rw [fx_s]
    unfold bd_1_2
    simp (disch := omega) only [lits, ltN, addN, Nat.lt_irrefl, if_false]
  | j + 1, p, n + 1, I, e, hn, h => by
    have hC := hc
    obtain ⟨q1, q2, q3, q4⟩ := hc
    have hp' : p < C := by omega
    have hl := hp_lt (k := k) q1 q3 hp'
    obtain ⟨I', r1, r2, r3⟩ := fit_in c1 hC hk j (p + 1) n _ (by omega) (by omega) (FI_step hC hk hp' h)
    obtain ⟨a, b, c, d, s⟩ := h
    have s1 := s k (hp C H k p) hk hl
    rw [if_neg (by omega), if_pos rfl] at s1
    refine ⟨I', ?_, r2, ?_⟩
    · rw [← r1, fx_s]
      unfold bd_1_2
      rw [f2_s hC a b hk hp', Option.bind_some]
      unfold f_9
      simp (disch := omega) only [lits, ltN, addN, mulN, atN, puN, s1, Option.bind_some, hp', if_true]
    · intro x hx
      rw [r3 x hx]
      have hx1 : x ≠ 75 := fun e => hx (by rw [e]; decide)
      have hx2 : x ≠ 76 := fun e => hx (by rw [e]; decide)
      have hx3 : x ≠ 77 := fun e => hx (by rw [e]; decide)
      rw [up_ne hx3, up_ne hx2, up_ne hx1]
theorem fit_out {C H : Nat} (hc : CH C H) : ∀ (j k n : Nat) (I : Nat → Nat → Int32), k + j = 3 → j < n → FI C H k 0 I → ∃ I', fx (fun _ _ _ => none) bd_1_1 n (nI C) (nI k) I = some I' ∧ DT C H I' ∧ Fr [75, 76, 77] I I'
  | _, _, 0, _, _, h, _ => absurd h (Nat.not_lt_zero _)
  | 0, k, n + 1, I, e, _, h => by
    obtain rfl : k = 3 := by omega
    obtain ⟨a, b, c, d, s⟩ := h
    refine ⟨I, ?_, ⟨a, b, fun k p hk hp => c k p hk hp (by omega), fun k p hk hp => d k p hk hp (by omega), fun k h hk hh => by rw [s k h hk hh, if_pos hk]⟩, Fr.refl _ _⟩
    rw [fx_s]
    unfold bd_1_1
    simp (disch := omega) only [lits, ltN, Nat.lt_irrefl, if_false]
  | j + 1, k, n + 1, I, e, hn, h => by
    have hk : k < 3 := by omega
    have q4 := hc.2.2.2
    obtain ⟨I1, r1, r2, r3⟩ := fit_in (fx (fun _ _ _ => none) bd_1_1 n) hc hk C 0 FU I (by omega) (FU_big (by omega)) h
    obtain ⟨I', t1, t2, t3⟩ := fit_out hc j (k + 1) n I1 (by omega) (by omega) (by
      obtain ⟨a, b, c, d, s⟩ := r2
      refine ⟨a, b, fun k' p' h1 h2 h3 => c k' p' h1 h2 (by omega), fun k' p' h1 h2 h3 => d k' p' h1 h2 (by omega), fun k' h' h1 h2 => ?_⟩
      rw [s k' h' h1 h2]
      by_cases w1 : k' < k
      · rw [if_pos w1, if_pos (by omega)]
      · by_cases w2 : k' = k
        · rw [if_neg w1, if_pos w2, if_pos (by omega), w2]
        · rw [if_neg w1, if_neg w2, if_neg (by omega)]
          by_cases w3 : k' = k + 1
          · rw [if_pos w3, ct]
          · rw [if_neg w3])
    refine ⟨I', ?_, t2, r3.trans t3⟩
    rw [fx_s, ← t1, ← r1]
    unfold bd_1_1
    simp (disch := omega) only [lits, ltN, hk, if_true]
    rfl
/-- the class's tables made -/
theorem fit_s {C H : Nat} {I : Nat → Nat → Int32} (hc : CH C H) : ∃ I', f_1 (nI C) (nI H) I = some I' ∧ DT C H I' ∧ Fr [74, 75, 76, 77] I I' ∧ I' 74 = (up (up I 74 4 (nI C)) 74 5 (nI H)) 74 := by
  have c2 := hc.2.1
  have e : ∀ x, x ≠ 77 → filf (up (up I 74 4 (nI C)) 74 5 (nI H)) 77 18 0 x = (up (up I 74 4 (nI C)) 74 5 (nI H)) x := fun x hx => filf_ne hx
  obtain ⟨I', r1, r2, r3⟩ := fit_out hc 3 0 FU (filf (up (up I 74 4 (nI C)) 74 5 (nI H)) 77 18 0) rfl (FU_big (by decide)) ⟨by
      rw [e _ (by decide), up_nk (by decide), up_at], by
      rw [e _ (by decide), up_at], fun k' p' _ _ h => absurd h (by omega), fun k' p' _ _ h => absurd h (by omega), fun k' h' h1 h2 => by
      rw [filf_at (by omega)]
      split
      · omega
      · split
        · rw [ct]; rfl
        · rfl⟩
  refine ⟨I', ?_, r2, ?_, ?_⟩
  · rw [← r1]
    rfl
  · intro x hx
    have hx0 : x ≠ 74 := fun e => hx (by rw [e]; decide)
    have hx3 : x ≠ 77 := fun e => hx (by rw [e]; decide)
    rw [r3 x (fun h => hx (List.mem_cons_of_mem _ h)), e x hx3, up_ne hx0, up_ne hx0]
  · rw [r3 74 (by decide), e 74 (by decide)]
/-- starts along a row -/
def ST (f : Nat → Nat) (L : List Nat) (I : Nat → Nat → Int32) : Prop := ∀ y, y ∈ L → I 78 y = nI (bef f L y)
theorem ST_app {f : Nat → Nat} {L : List Nat} {I : Nat → Nat → Int32} {x : Nat} (h : ST f L I) (hx : x ∉ L) : ST f (L ++ [x]) (up I 78 x (nI (sm f L))) := by
  intro y hy
  rw [up_eq]
  split
  · next e =>
    rw [e, bef_out f L [x] hx, bef, if_pos rfl, Nat.add_zero]
  · next e =>
    rcases List.mem_append.mp hy with hy | hy
    · rw [h y hy, bef_in f L [x] hy]
    · exact absurd (List.mem_singleton.mp hy) e
/-- tables, and the kind and side that are held -/
def DK (C H k s : Nat) (I : Nat → Nat → Int32) : Prop := DT C H I ∧ I 74 6 = nI k ∧ I 74 7 = nI s
theorem DK.fr {C H k s : Nat} {S : List Nat} {I I' : Nat → Nat → Int32} (h : DK C H k s I) (f : Fr S I I') (h4 : 74 ∉ S) (h5 : 75 ∉ S) (h6 : 76 ∉ S) (h7 : 77 ∉ S) : DK C H k s I' := by
  obtain ⟨a, b, c⟩ := h
  refine ⟨a.fr ?_ ?_ (f 75 h5) (f 76 h6) (f 77 h7), ?_, ?_⟩
  · rw [f 74 h4]
  · rw [f 74 h4]
  · rw [f 74 h4]; exact b
  · rw [f 74 h4]; exact c
theorem f3_s {C H k s : Nat} {I : Nat → Nat → Int32} (h : DT C H I) : ∃ I', f_3 (nI k) (nI s) I = some I' ∧ DK C H k s I' ∧ Fr [74] I I' := by
  refine ⟨up (up I 74 6 (nI k)) 74 7 (nI s), rfl, ⟨h.fr ?_ ?_ ?_ ?_ ?_, ?_, ?_⟩, ?_⟩
  · rw [up_nk (by decide), up_nk (by decide)]
  · rw [up_nk (by decide), up_nk (by decide)]
  · rw [up_ne (by decide), up_ne (by decide)]
  · rw [up_ne (by decide), up_ne (by decide)]
  · rw [up_ne (by decide), up_ne (by decide)]
  · rw [up_nk (by decide), up_at]
  · rw [up_at]
  · exact ((Fr.refl _ _).up (by decide)).up (by decide)
theorem f6_s {C H k s x ab : Nat} {I : Nat → Nat → Int32} (hc : CH C H) (hk : k < 3) (h : DK C H k s I) (hx : x < H) : f_6 (nI ab) (nI x) I = some (nI (ab + ct C H k C x), up I 78 x (nI ab)) := by
  obtain ⟨⟨a, b, c, d, e⟩, h6, h7⟩ := h
  have c2 := hc.2.1
  have e1 := e k x hk hx
  unfold f_6
  simp (disch := omega) only [puN, up_ne, h6, lits, mulN, addN, atN, e1, ne_eq, Nat.reduceEqDiff, not_false_eq_true]
theorem oth_len (a b i : Nat) : (oth a b i).length ≤ i := by
  induction i with
  | zero => exact Nat.le_refl 0
  | succ i ih =>
    rw [oth]
    split
    · omega
    · rw [List.length_append, List.length_singleton]
      omega
/-- both are laid -/
theorem f5_s {C H k s a b : Nat} {L : List Nat} {I : Nat → Nat → Int32} (hc : CH C H) (hk : k < 3) (h : DK C H k s I) (ha : a < H) (hb : b < H) (hL : a ∉ L) (hL2 : b ∉ L) (hs : ST (ct C H k C) L I) : ∃ I', f_5 (nI (sm (ct C H k C) L)) (nI a) (nI b) I = some (nI (sm (ct C H k C) (L ++ pr a b)), I') ∧ ST (ct C H k C) (L ++ pr a b) I' ∧ Fr [78] I I' := by
  have c2 := hc.2.1
  have s1 := ST_app hs hL
  have fr1 : Fr [78] I (up I 78 a (nI (sm (ct C H k C) L))) := (Fr.refl _ _).up (by decide)
  have dk1 := h.fr fr1 (by decide) (by decide) (by decide) (by decide)
  have e1 : sm (ct C H k C) L + ct C H k C a = sm (ct C H k C) (L ++ [a]) := by
    rw [sm_app, sm, sm, Nat.add_zero]
  unfold f_5 lb_5_2
  rw [f6_s hc hk h ha, Option.bind_some, e1]
  simp (disch := omega) only [eqN]
  by_cases q : a = b
  · rw [if_pos q]
    refine ⟨up I 78 a (nI (sm (ct C H k C) L)), ?_, ?_, fr1⟩
    · unfold pr
      rw [if_pos q]
    · unfold pr
      rw [if_pos q]
      exact s1
  · rw [if_neg q, f6_s hc hk dk1 hb, Option.bind_some]
    have hb2 : b ∉ L ++ [a] := by
      rw [List.mem_append, List.mem_singleton]
      intro w
      rcases w with w | w
      · exact hL2 w
      · exact q w.symm
    refine ⟨up (up I 78 a (nI (sm (ct C H k C) L))) 78 b (nI (sm (ct C H k C) (L ++ [a]))), ?_, ?_, fr1.up (by decide)⟩
    · unfold pr
      rw [if_neg q, show L ++ [a, b] = (L ++ [a]) ++ [b] by rw [List.append_assoc]; rfl, sm_app (ct C H k C) (L ++ [a]) [b], sm, sm, Nat.add_zero]
    · have := ST_app s1 hb2
      unfold pr
      rw [if_neg q, show L ++ [a, b] = (L ++ [a]) ++ [b] by rw [List.append_assoc]; rfl]
      exact this
