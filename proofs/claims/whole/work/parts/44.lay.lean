/-! The class lays heaps -/
theorem sm_one (f : Nat → Nat) (x : Nat) : sm f [x] = f x := by
  rw [sm, sm, Nat.add_zero]
theorem oth_nd {a b i x : Nat} (h : i ≤ x) : x ∉ oth a b i := by
  rw [oth_mem]
  omega
theorem lay_0 (a b l : Nat) : lay a b l 0 = [] := by
  unfold lay oth
  simp
theorem lay_skip {a b l i : Nat} (h : i = a ∨ i = b) : lay a b l (i + 1) = lay a b l i := by
  unfold lay
  rw [oth, if_pos h]
theorem lay_go {a b l i : Nat} (h : ¬ (i = a ∨ i = b)) (hl : (oth a b i).length ≠ l) : lay a b l (i + 1) = lay a b l i ++ [i] := by
  unfold lay
  rw [oth, if_neg h, List.length_append, List.length_singleton]
  by_cases q : (oth a b i).length ≤ l
  · rw [if_pos q, if_pos (by omega)]
  · rw [if_neg q, if_neg (by omega), List.take_append_of_le_length (by omega), List.drop_append_of_le_length (by omega), List.append_assoc, List.append_assoc]
theorem lay_at {a b l i : Nat} (h : ¬ (i = a ∨ i = b)) (hl : (oth a b i).length = l) : lay a b l (i + 1) = (lay a b l i ++ pr a b) ++ [i] := by
  unfold lay
  rw [oth, if_neg h, List.length_append, List.length_singleton, if_neg (by omega), if_pos (by omega), List.take_append_of_le_length (by omega), List.drop_append_of_le_length (by omega), ← hl, List.take_length, List.drop_length, List.nil_append, List.append_assoc]
theorem lay_endA {a b l H : Nat} (h : ¬ (oth a b H).length ≤ l) : lay a b l H = ord a b l H := by
  unfold lay ord
  rw [if_neg h]
theorem lay_endB {a b l H : Nat} (h : (oth a b H).length ≤ l) : lay a b l H ++ pr a b = ord a b l H := by
  unfold lay ord
  rw [if_pos h, List.take_of_length_le h, List.drop_of_length_le h, List.append_nil]
theorem lay_pre {a b l i x : Nat} (hl : (oth a b i).length ≤ l) : x ∈ lay a b l i ↔ x ∈ oth a b i := by
  unfold lay
  rw [if_pos hl]
theorem lay_not {a b l i x : Nat} (h : i ≤ x) (ha : x ≠ a) (hb : x ≠ b) : x ∉ lay a b l i := by
  unfold lay
  split
  · exact oth_nd h
  · intro w
    rcases List.mem_append.mp w with w | w
    · exact oth_nd h (List.mem_of_mem_take w)
    · rcases List.mem_append.mp w with w | w
      · rw [pr_mem] at w
        omega
      · exact oth_nd h (List.mem_of_mem_drop w)
theorem lay_in {C H k s a b l : Nat} (hc : CH C H) (hk : k < 3) (ha : a < H) (hb : b < H) (hl : l < H) : ∀ (j i n : Nat) (I : Nat → Nat → Int32), i + j = H → j < n → DK C H k s I → ST (ct C H k C) (lay a b l i) I → ∃ I', fx (fun _ _ _ _ _ _ _ => none) bd_4_1 n (nI l) (nI a) (nI b) (nI (sm (ct C H k C) (lay a b l i))) (nI (oth a b i).length) (nI i) I = some I' ∧ ST (ct C H k C) (ord a b l H) I' ∧ Fr [78] I I'
  | _, _, 0, _, _, h, _, _ => absurd h (Nat.not_lt_zero _)
  | 0, i, n + 1, I, e, _, h, hs => by
    have hC := hc
    obtain ⟨q1, q2, q3, q4⟩ := hc
    obtain rfl : i = H := by omega
    have ol := oth_len a b i
    rw [fx_s, bd_4_1]
    unfold lb_4_5
    simp (disch := omega) only [h.1.2.1, lits, ltN, Nat.lt_irrefl, if_false]
    by_cases w : l < (oth a b i).length
    · rw [if_pos w]
      refine ⟨I, rfl, ?_, Fr.refl _ _⟩
      rw [← lay_endA (by omega)]
      exact hs
    · rw [if_neg w]
      have nm : ∀ x, x = a ∨ x = b → x ∉ lay a b l i := by
        intro x hx
        rw [lay_pre (by omega), oth_mem]
        omega
      obtain ⟨I', r1, r2, r3⟩ := f5_s hC hk h ha hb (nm a (Or.inl rfl)) (nm b (Or.inr rfl)) hs
      rw [lay_endB (by omega)] at r1 r2
      refine ⟨I', ?_, r2, r3⟩
      rw [r1, Option.bind_some]
  | j + 1, i, n + 1, I, e, hn, h, hs => by
    have hC := hc
    obtain ⟨q1, q2, q3, q4⟩ := hc
    have ol := oth_len a b i
    have hi : i < H := by omega
    rw [fx_s, bd_4_1]
    unfold lb_4_2 lb_4_3
    simp (disch := omega) only [h.1.2.1, lits, ltN, eqN, hi, if_true, addN]
    by_cases w1 : i = a
    · rw [if_pos w1]
      have := lay_in hC hk ha hb hl j (i + 1) n I (by omega) (by omega) h (by rw [lay_skip (Or.inl w1)]; exact hs)
      rw [lay_skip (Or.inl w1), oth, if_pos (Or.inl w1)] at this
      exact this
    · rw [if_neg w1]
      by_cases w2 : i = b
      · rw [if_pos w2]
        have := lay_in hC hk ha hb hl j (i + 1) n I (by omega) (by omega) h (by rw [lay_skip (Or.inr w2)]; exact hs)
        rw [lay_skip (Or.inr w2), oth, if_pos (Or.inr w2)] at this
        exact this
      · rw [if_neg w2]
        have w3 : ¬ (i = a ∨ i = b) := by omega
        have ol2 : (oth a b (i + 1)).length = (oth a b i).length + 1 := by
          rw [oth, if_neg w3, List.length_append, List.length_singleton]
        by_cases w : (oth a b i).length = l
        · rw [if_pos w]
          have nm : ∀ x, x = a ∨ x = b → x ∉ lay a b l i := by
            intro x hx
            rw [lay_pre (by omega), oth_mem]
            omega
          obtain ⟨I1, r1, r2, r3⟩ := f5_s hC hk h ha hb (nm a (Or.inl rfl)) (nm b (Or.inr rfl)) hs
          have h1 := h.fr r3 (by decide) (by decide) (by decide) (by decide)
          have ni : i ∉ lay a b l i ++ pr a b := by
            rw [List.mem_append, pr_mem]
            intro z
            rcases z with z | z
            · exact lay_not (Nat.le_refl i) w1 w2 z
            · omega
          rw [r1, Option.bind_some]
          dsimp only
          rw [f6_s hC hk h1 hi, Option.bind_some]
          dsimp only
          have s2 := ST_app r2 ni
          rw [← lay_at w3 w] at s2
          have fr2 : Fr [78] I1 (up I1 78 i (nI (sm (ct C H k C) (lay a b l i ++ pr a b)))) := (Fr.refl _ _).up (by decide)
          obtain ⟨I', t1, t2, t3⟩ := lay_in hC hk ha hb hl j (i + 1) n _ (by omega) (by omega) (h1.fr fr2 (by decide) (by decide) (by decide) (by decide)) s2
          refine ⟨I', ?_, t2, (r3.trans fr2).trans t3⟩
          rw [← t1, lay_at w3 w, sm_app _ (lay a b l i ++ pr a b), sm_one, ol2]
        · rw [if_neg w, f6_s hC hk h hi, Option.bind_some]
          dsimp only
          have s2 := ST_app hs (lay_not (Nat.le_refl i) w1 w2)
          rw [← lay_go w3 w] at s2
          have fr2 : Fr [78] I (up I 78 i (nI (sm (ct C H k C) (lay a b l i)))) := (Fr.refl _ _).up (by decide)
          obtain ⟨I', t1, t2, t3⟩ := lay_in hC hk ha hb hl j (i + 1) n _ (by omega) (by omega) (h.fr fr2 (by decide) (by decide) (by decide) (by decide)) s2
          refine ⟨I', ?_, t2, fr2.trans t3⟩
          rw [← t1, lay_go w3 w, sm_app _ (lay a b l i), sm_one, ol2]
/-- starts that are set -/
def SS (H : Nat) (g : Nat → Nat) (I : Nat → Nat → Int32) : Prop := ∀ h, h < H → I 78 h = nI (g h)
theorem f4_s {C H k s a b l : Nat} {I : Nat → Nat → Int32} (hc : CH C H) (hk : k < 3) (ha : a < H) (hb : b < H) (hl : l < H) (h : DK C H k s I) : ∃ I', f_4 (nI l) (nI a) (nI b) I = some I' ∧ SS H (bef (ct C H k C) (ord a b l H)) I' ∧ DK C H k s I' ∧ Fr [78] I I' := by
  have c2 := hc.2.1
  obtain ⟨I', r1, r2, r3⟩ := lay_in hc hk ha hb hl H 0 FU I (by omega) (FU_big (by omega)) h (by rw [lay_0]; intro y hy; cases hy)
  rw [lay_0] at r1
  refine ⟨I', r1, fun h hh => r2 h ((ord_mem ha hb).mpr hh), h.fr r3 (by decide) (by decide) (by decide) (by decide), r3⟩
theorem f10_s {C H k s p : Nat} {g : Nat → Nat} {I : Nat → Nat → Int32} (hc : CH C H) (hk : k < 3) (hs : s < 2) (h : DK C H k s I) (hg : SS H g I) (hp' : p < C) : f_10 (nI p) I = some (nI (g (hp C H k p) + off C H k s p)) := by
  obtain ⟨⟨a, b, c, d, e⟩, h6, h7⟩ := h
  obtain ⟨c1, c2, c3, c4⟩ := hc
  have hl := hp_lt (k := k) c1 c3 hp'
  have h1 := c k p hk hp'
  have h2 := d k p hk hp'
  have h3 := e k _ hk hl
  have h4 := hg _ hl
  have h5 := ct_lt (C := C) (H := H) (k := k) hp'
  have h8 := ct_le C H k (hp C H k p) C
  unfold f_10 f_8 f_9 lb_10_2 off
  simp (disch := omega) only [h6, h7, lits, mulN, addN, atN, h1, h2, h3, h4, Option.bind_some, eqN, subN]
  by_cases q : s = 0
  · rw [if_pos q, if_neg (by omega)]
  · rw [if_neg q, if_pos (by omega)]
theorem f8_s {C H k s p : Nat} {I : Nat → Nat → Int32} (hc : CH C H) (hk : k < 3) (h : DK C H k s I) (hp' : p < C) : f_8 (nI p) I = some (nI (hp C H k p)) := by
  obtain ⟨⟨a, b, c, d, e⟩, h6, h7⟩ := h
  obtain ⟨c1, c2, c3, c4⟩ := hc
  have h1 := c k p hk hp'
  unfold f_8
  simp (disch := omega) only [h6, lits, mulN, addN, atN, h1]
theorem oth_grow (a b i : Nat) : ∀ d, (oth a b i).length ≤ (oth a b (i + d)).length
  | 0 => Nat.le_refl _
  | d + 1 => by
    have ih := oth_grow a b i d
    rw [← Nat.add_assoc, oth]
    split
    · exact ih
    · rw [List.length_append]
      omega
theorem oth_pre {a b i l : Nat} (h : l ≤ (oth a b i).length) : ∀ d, (oth a b (i + d)).take l = (oth a b i).take l
  | 0 => rfl
  | d + 1 => by
    have ih := oth_pre h d
    have := oth_grow a b i d
    rw [← Nat.add_assoc, oth]
    split
    · exact ih
    · rw [List.take_append_of_le_length (by omega)]
      exact ih
/-- its own heap alone -/
theorem own_in {C H k s a l : Nat} (hc : CH C H) (hk : k < 3) (ha : a < H) (hl : l < H) : ∀ (j i n : Nat) (I : Nat → Nat → Int32), i + j = H → j < n → DK C H k s I → fx (fun _ _ _ _ _ _ => none) bd_7_1 n (nI a) (nI l) (nI (sm (ct C H k C) ((oth a a i).take l))) (nI (min (oth a a i).length l)) (nI i) I = some (up I 78 a (nI (sm (ct C H k C) ((oth a a H).take l))))
  | _, _, 0, _, _, h, _ => absurd h (Nat.not_lt_zero _)
  | 0, i, n + 1, I, e, _, h => by
    obtain ⟨q1, q2, q3, q4⟩ := hc
    obtain rfl : i = H := by omega
    rw [fx_s, bd_7_1]
    unfold lb_7_3
    simp (disch := omega) only [h.1.2.1, ltN, Nat.lt_irrefl, if_false, puN]
  | j + 1, i, n + 1, I, e, hn, h => by
    have hC := hc
    obtain ⟨q1, q2, q3, q4⟩ := hc
    have ol := oth_len a a i
    have hi : i < H := by omega
    have h9 := h.1.2.2.2.2 k i hk hi
    rw [fx_s, bd_7_1]
    unfold lb_7_2 lb_7_3 f_9
    simp (disch := omega) only [h.1.2.1, h.2.1, ltN, eqN, hi, if_true, puN, lits, mulN, addN, atN, h9, Option.bind_some]
    by_cases w : min (oth a a i).length l < l
    · rw [if_pos w]
      by_cases w1 : i = a
      · rw [if_pos w1, ← own_in hC hk ha hl j (i + 1) n I (by omega) (by omega) h, oth, if_pos (Or.inl w1)]
      · rw [if_neg w1, ← own_in hC hk ha hl j (i + 1) n I (by omega) (by omega) h, oth, if_neg (by omega), List.length_append, List.length_singleton, List.take_of_length_le (show (oth a a i).length ≤ l by omega), List.take_of_length_le (show (oth a a i ++ [i]).length ≤ l by rw [List.length_append, List.length_singleton]; omega), sm_app, sm_one, show min (oth a a i).length l + 1 = min ((oth a a i).length + 1) l by omega]
    · rw [if_neg w]
      rw [show H = i + (H - i) by omega, oth_pre (by omega)]
theorem f7_s {C H k s a l : Nat} {I : Nat → Nat → Int32} (hc : CH C H) (hk : k < 3) (ha : a < H) (hl : l < H) (h : DK C H k s I) : f_7 (nI a) (nI l) I = some (up I 78 a (nI (bef (ct C H k C) (ord a a l H) a))) := by
  have c2 := hc.2.1
  have := own_in hc hk ha hl H 0 FU I (by omega) (FU_big (by omega)) h
  have e : bef (ct C H k C) (ord a a l H) a = sm (ct C H k C) ((oth a a H).take l) := by
    unfold ord
    rw [bef_out _ _ _ (fun w => by
      have := List.mem_of_mem_take w
      rw [oth_mem] at this
      omega)]
    unfold pr
    rw [if_pos rfl, List.singleton_append, bef, if_pos rfl, Nat.add_zero]
  rw [show oth a a 0 = [] from rfl, List.take_nil, sm, List.length_nil, Nat.zero_min] at this
  rw [e]
  exact this
