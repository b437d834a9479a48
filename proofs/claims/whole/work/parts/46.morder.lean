/-! The model lays heaps -/
/-- a row of heaps as the model holds it -/
def OL (L : List Nat) (I : Nat → Nat → Int32) : Prop := ∀ i, i < L.length → I 114 i = nI (L.getD i 0)
theorem OL_app {L : List Nat} {I : Nat → Nat → Int32} (x : Nat) (h : OL L I) : OL (L ++ [x]) (up I 114 L.length (nI x)) := by
  intro i hi
  rw [List.length_append, List.length_singleton] at hi
  rw [up_eq]
  split
  · next e =>
    rw [e, List.getD_eq_getElem?_getD, List.getElem?_append_right (Nat.le_refl _), Nat.sub_self]
    rfl
  · rw [h i (by omega), List.getD_eq_getElem?_getD, List.getD_eq_getElem?_getD, List.getElem?_append_left (by omega)]
theorem sm_len : ∀ L : List Nat, sm (fun _ => 1) L = L.length
  | [] => rfl
  | x :: L => by
    rw [sm, sm_len L, List.length_cons]
    omega
theorem sr_len : ∀ i, sr (fun _ => 1) i = i
  | 0 => rfl
  | i + 1 => by rw [sr, sr_len i]
theorem ord_len {a b l H : Nat} (ha : a < H) (hb : b < H) : (ord a b l H).length = H := by
  rw [← sm_len, sm_ord _ ha hb, sr_len]
theorem pr_len (a b : Nat) : (pr a b).length = if a = b then 1 else 2 := by
  unfold pr
  split <;> rfl
theorem oth_pr {a b H : Nat} (ha : a < H) (hb : b < H) : (oth a b H).length + (pr a b).length = H := by
  have h := ord_len (l := 0) ha hb
  unfold ord at h
  rw [List.length_append, List.length_append, List.take_zero, List.drop_zero, List.length_nil] at h
  omega
theorem oth_room {a b i H : Nat} (ha : a < H) (hb : b < H) (hi : i < H) (h : ¬ (i = a ∨ i = b)) : (oth a b i).length + (pr a b).length < H := by
  have h1 := oth_pr ha hb
  have h2 := oth_grow a b (i + 1) (H - (i + 1))
  rw [show i + 1 + (H - (i + 1)) = H by omega, oth, if_neg h, List.length_append, List.length_singleton] at h2
  omega
theorem lay_len {a b l i : Nat} : (lay a b l i).length = (oth a b i).length + (if (oth a b i).length ≤ l then 0 else (pr a b).length) := by
  unfold lay
  split
  · rfl
  · rw [List.length_append, List.length_append, List.length_take, List.length_drop]
    omega
theorem f169_s {a b : Nat} {L : List Nat} {I : Nat → Nat → Int32} (ha : a < 6) (hb : b < 6) (hL : L.length + (pr a b).length ≤ 6) (h : OL L I) : ∃ I', f_169 (nI L.length) (nI a) (nI b) I = some (nI (L ++ pr a b).length, I') ∧ OL (L ++ pr a b) I' ∧ Fr [114] I I' := by
  rw [pr_len] at hL
  have h1 : L.length < 6 := by split at hL <;> omega
  have fr1 : Fr [114] I (up I 114 L.length (nI a)) := (Fr.refl _ _).up (by decide)
  unfold f_169
  simp (disch := omega) only [inN, clN, h1, if_true, lits, addN, eqN]
  by_cases q : b = a
  · refine ⟨up I 114 L.length (nI a), ?_, ?_, fr1⟩
    · unfold pr
      rw [if_pos q, if_pos q.symm, List.length_append, List.length_singleton]
    · unfold pr
      rw [if_pos q.symm]
      exact OL_app a h
  · rw [if_neg q]
    rw [if_neg (fun e => q e.symm)] at hL
    have h2 : L.length + 1 < 6 := by omega
    rw [if_pos h2]
    have := OL_app b (OL_app a h)
    rw [List.length_append, List.length_singleton, List.append_assoc] at this
    refine ⟨up (up I 114 L.length (nI a)) 114 (L.length + 1) (nI b), ?_, ?_, fr1.up (by decide)⟩
    · unfold pr
      rw [if_neg (fun e => q e.symm), List.length_append]
      rfl
    · unfold pr
      rw [if_neg (fun e => q e.symm)]
      exact this
/-- each but once -/
theorem oth_nodup (a b : Nat) : ∀ i, (oth a b i).Nodup
  | 0 => List.nodup_nil
  | i + 1 => by
    rw [oth]
    split
    · exact oth_nodup a b i
    · rw [List.nodup_append]
      refine ⟨oth_nodup a b i, List.nodup_cons.mpr ⟨List.not_mem_nil, List.nodup_nil⟩, ?_⟩
      intro x hx y hy e
      rw [List.mem_singleton] at hy
      rw [oth_mem] at hx
      omega
theorem ord_nodup (a b l H : Nat) : (ord a b l H).Nodup := by
  have h0 := oth_nodup a b H
  rw [← List.take_append_drop l (oth a b H), List.nodup_append] at h0
  obtain ⟨h1, h2, h3⟩ := h0
  unfold ord
  rw [List.nodup_append]
  refine ⟨h1, ?_, ?_⟩
  · rw [List.nodup_append]
    refine ⟨?_, h2, ?_⟩
    · unfold pr
      split
      · exact List.nodup_cons.mpr ⟨List.not_mem_nil, List.nodup_nil⟩
      · next e =>
        refine List.nodup_cons.mpr ⟨?_, List.nodup_cons.mpr ⟨List.not_mem_nil, List.nodup_nil⟩⟩
        rw [List.mem_singleton]
        exact e
    · intro x hx y hy e
      have := List.mem_of_mem_drop hy
      rw [oth_mem] at this
      rw [pr_mem] at hx
      omega
  · intro x hx y hy e
    rcases List.mem_append.mp hy with hy | hy
    · have := List.mem_of_mem_take hx
      rw [oth_mem] at this
      rw [pr_mem] at hy
      omega
    · exact h3 x hx y hy e
/-- starts that the model sets -/
def SM (H : Nat) (g : Nat → Nat) (I : Nat → Nat → Int32) : Prop := ∀ h, h < H → I 113 h = nI (g h)
theorem bef_nth (f : Nat → Nat) : ∀ (L : List Nat) (i : Nat), L.Nodup → i < L.length → bef f L (L.getD i 0) = sm f (L.take i)
  | [], _, _, h => absurd h (Nat.not_lt_zero _)
  | x :: L, 0, _, _ => by
    show bef f (x :: L) x = _
    rw [bef, if_pos rfl, List.take_zero, sm]
  | x :: L, i + 1, hn, h => by
    have hn2 := List.nodup_cons.mp hn
    have hi : i < L.length := by
      rw [List.length_cons] at h
      omega
    have hm : L.getD i 0 ∈ L := by
      rw [List.getD_eq_getElem?_getD, List.getElem?_eq_getElem hi]
      exact List.getElem_mem hi
    show bef f (x :: L) (L.getD i 0) = _
    rw [bef, if_neg (fun e => hn2.1 (by rw [e]; exact hm)), List.take_succ_cons, sm, bef_nth f L i hn2.2 hi]
theorem sm_take (f : Nat → Nat) : ∀ (L : List Nat) (i : Nat), i < L.length → sm f (L.take (i + 1)) = sm f (L.take i) + f (L.getD i 0)
  | [], _, h => absurd h (Nat.not_lt_zero _)
  | x :: L, 0, _ => by
    show f x + 0 = 0 + f x
    omega
  | x :: L, i + 1, h => by
    have hi : i < L.length := by
      rw [List.length_cons] at h
      omega
    rw [List.take_succ_cons, List.take_succ_cons, sm, sm, sm_take f L i hi, Nat.add_assoc]
    rfl
theorem or_7 {C H k s : Nat} {L : List Nat} (hc : CH C H) (hL : L.length = H) (hn : L.Nodup) (hm : ∀ x, x ∈ L → x < H) : ∀ (j i n : Nat) (I : Nat → Nat → Int32), i + j = H → j < n → MD C H k s I → OL L I → (∀ x, x < i → I 113 (L.getD x 0) = nI (bef (ct C H k C) L (L.getD x 0))) → ∃ I', fx (fun _ _ _ => none) bd_168_7 n (nI (sm (ct C H k C) (L.take i))) (nI i) I = some I' ∧ (∀ x, x < H → I' 113 (L.getD x 0) = nI (bef (ct C H k C) L (L.getD x 0))) ∧ Fr [113] I I'
  | _, _, 0, _, _, h, _, _, _ => absurd h (Nat.not_lt_zero _)
  | 0, i, n + 1, I, e, _, h, ho, hs => by
    have c2 := hc.2.1
    obtain rfl : i = H := by omega
    refine ⟨I, ?_, hs, Fr.refl _ _⟩
    rw [fx_s, bd_168_7]
    simp (disch := omega) only [h.1.2, ltN, Nat.lt_irrefl, if_false]
  | j + 1, i, n + 1, I, e, hn2, h, ho, hs => by
    have c2 := hc.2.1
    have hi : i < H := by omega
    have hi6 : i < 6 := by omega
    have o1 := ho i (by omega)
    have hx : L.getD i 0 < H := hm _ (by
      rw [List.getD_eq_getElem?_getD, List.getElem?_eq_getElem (by omega)]
      exact List.getElem_mem _)
    have hx6 : L.getD i 0 < 6 := by omega
    have s1 := h.2.2.2 _ hx
    have fr1 : Fr [113] I (up I 113 (L.getD i 0) (nI (sm (ct C H k C) (L.take i)))) := (Fr.refl _ _).up (by decide)
    obtain ⟨I', r1, r2, r3⟩ := or_7 hc hL hn hm j (i + 1) n (up I 113 (L.getD i 0) (nI (sm (ct C H k C) (L.take i)))) (by omega) (by omega) (h.fr fr1 (by decide) (by decide) (by decide) (by decide)) (fun x hx => by rw [fr1 114 (by decide)]; exact ho x hx) (fun x hx => by
      rw [up_eq]
      split
      · next e => rw [e, bef_nth _ L i hn (by omega)]
      · next e => exact hs x (by
          by_cases w : x = i
          · rw [w] at e
            exact absurd rfl e
          · omega))
    refine ⟨I', ?_, r2, fr1.trans r3⟩
    rw [fx_s, bd_168_7, ← r1, sm_take _ L i (by omega)]
    simp (disch := omega) only [h.1.2, ltN, inN, clN, hi, hi6, hx6, if_true, o1, up_ne, s1, addN, lits]
theorem or_1 {C H k s a b l : Nat} (hc : CH C H) (ha : a < H) (hb : b < H) (hl : l < H) : ∀ (j i n : Nat) (I : Nat → Nat → Int32), i + j = H → j < n → MD C H k s I → OL (lay a b l i) I → ∃ I', fx (fun _ _ _ _ _ _ _ => none) bd_168_1 n (nI a) (nI b) (nI l) (nI (lay a b l i).length) (nI (oth a b i).length) (nI i) I = lb_168_7 (nI 0) (nI 0) I' ∧ OL (ord a b l H) I' ∧ Fr [114] I I'
  | _, _, 0, _, _, h, _, _ => absurd h (Nat.not_lt_zero _)
  | 0, i, n + 1, I, e, _, h, hs => by
    have hC := hc
    obtain ⟨q1, q2, q3, q4⟩ := hc
    obtain rfl : i = H := by omega
    have ol := oth_len a b i
    have op := oth_pr ha hb
    rw [fx_s, bd_168_1]
    unfold lb_168_6
    simp (disch := omega) only [h.1.2, lits, ltN, Nat.lt_irrefl, if_false]
    by_cases w : l < (oth a b i).length
    · rw [if_pos w]
      refine ⟨I, rfl, ?_, Fr.refl _ _⟩
      rw [← lay_endA (by omega)]
      exact hs
    · rw [if_neg w]
      have ll := lay_len (a := a) (b := b) (l := l) (i := i)
      rw [if_pos (by omega)] at ll
      obtain ⟨I', r1, r2, r3⟩ := f169_s (a := a) (b := b) (by omega) (by omega) (by omega) hs
      rw [lay_endB (by omega)] at r1 r2
      refine ⟨I', ?_, r2, r3⟩
      rw [r1, Option.bind_some]
  | j + 1, i, n + 1, I, e, hn, h, hs => by
    have hC := hc
    obtain ⟨q1, q2, q3, q4⟩ := hc
    have ol := oth_len a b i
    have hi : i < H := by omega
    rw [fx_s, bd_168_1]
    unfold lb_168_3 lb_168_4
    simp (disch := omega) only [h.1.2, lits, ltN, eqN, hi, if_true, addN]
    by_cases w1 : i = a
    · rw [if_pos w1]
      have := or_1 hC ha hb hl j (i + 1) n I (by omega) (by omega) h (by rw [lay_skip (Or.inl w1)]; exact hs)
      rw [lay_skip (Or.inl w1), oth, if_pos (Or.inl w1)] at this
      exact this
    · rw [if_neg w1]
      by_cases w2 : i = b
      · rw [if_pos w2]
        have := or_1 hC ha hb hl j (i + 1) n I (by omega) (by omega) h (by rw [lay_skip (Or.inr w2)]; exact hs)
        rw [lay_skip (Or.inr w2), oth, if_pos (Or.inr w2)] at this
        exact this
      · rw [if_neg w2]
        have w3 : ¬ (i = a ∨ i = b) := by omega
        have rm := oth_room ha hb hi w3
        have ll := lay_len (a := a) (b := b) (l := l) (i := i)
        have ol2 : (oth a b (i + 1)).length = (oth a b i).length + 1 := by
          rw [oth, if_neg w3, List.length_append, List.length_singleton]
        by_cases w : (oth a b i).length = l
        · rw [if_pos w]
          rw [if_pos (by omega)] at ll
          obtain ⟨I1, r1, r2, r3⟩ := f169_s (a := a) (b := b) (by omega) (by omega) (by omega) hs
          have h1 := h.fr r3 (by decide) (by decide) (by decide) (by decide)
          have hL6 : (lay a b l i ++ pr a b).length < 6 := by rw [List.length_append]; omega
          rw [r1, Option.bind_some]
          simp (disch := omega) only [inN, clN, hL6, if_true, addN]
          have s2 := OL_app i r2
          rw [← lay_at w3 w] at s2
          have fr2 : Fr [114] I1 (up I1 114 (lay a b l i ++ pr a b).length (nI i)) := (Fr.refl _ _).up (by decide)
          obtain ⟨I', t1, t2, t3⟩ := or_1 hC ha hb hl j (i + 1) n _ (by omega) (by omega) (h1.fr fr2 (by decide) (by decide) (by decide) (by decide)) s2
          refine ⟨I', ?_, t2, (r3.trans fr2).trans t3⟩
          rw [← t1, lay_at w3 w, List.length_append (as := lay a b l i ++ pr a b), List.length_singleton, ol2]
        · rw [if_neg w]
          have hL6 : (lay a b l i).length < 6 := by split at ll <;> omega
          simp (disch := omega) only [inN, clN, hL6, if_true]
          have s2 := OL_app i hs
          rw [← lay_go w3 w] at s2
          have fr2 : Fr [114] I (up I 114 (lay a b l i).length (nI i)) := (Fr.refl _ _).up (by decide)
          obtain ⟨I', t1, t2, t3⟩ := or_1 hC ha hb hl j (i + 1) n _ (by omega) (by omega) (h.fr fr2 (by decide) (by decide) (by decide) (by decide)) s2
          refine ⟨I', ?_, t2, fr2.trans t3⟩
          rw [← t1, lay_go w3 w, List.length_append, List.length_singleton, ol2]
/-- the model lays heaps: named a, another b, l of the others ahead -/
theorem f168_s {C H k s a b l : Nat} {I : Nat → Nat → Int32} (hc : CH C H) (ha : a < H) (hb : b < H) (hl : l < H) (h : MD C H k s I) : ∃ I', f_168 (nI a) (nI b) (nI l) I = some I' ∧ SM H (bef (ct C H k C) (ord a b l H)) I' ∧ MD C H k s I' ∧ Fr [113, 114] I I' := by
  have c2 := hc.2.1
  obtain ⟨I1, a1, a2, a3⟩ := or_1 hc ha hb hl H 0 FU I (by omega) (FU_big (by omega)) h (by rw [lay_0]; intro i hi; exact absurd hi (Nat.not_lt_zero _))
  have h1 := h.fr a3 (by decide) (by decide) (by decide) (by decide)
  obtain ⟨I2, b1, b2, b3⟩ := or_7 hc (ord_len ha hb) (ord_nodup a b l H) (fun x hx => (ord_mem ha hb).mp hx) H 0 FU I1 (by omega) (FU_big (by omega)) h1 a2 (fun x hx => absurd hx (Nat.not_lt_zero _))
  refine ⟨I2, ?_, ?_, h1.fr b3 (by decide) (by decide) (by decide) (by decide), (a3.mono (by decide)).trans (b3.mono (by decide))⟩
  · rw [lay_0] at a1
    have e : f_168 (nI a) (nI b) (nI l) I = lb_168_7 (nI 0) (nI 0) I1 := a1
    rw [e]
    rw [List.take_zero, sm] at b1
    exact b1
  · intro x hx
    have hm := (ord_mem (l := l) ha hb).mpr hx
    obtain ⟨i, hi, e⟩ := List.getElem_of_mem hm
    have e2 : (ord a b l H).getD i 0 = x := by
      rw [List.getD_eq_getElem?_getD, List.getElem?_eq_getElem hi, ← e]
      rfl
    rw [← e2]
    exact b2 i (by rw [ord_len ha hb] at hi; exact hi)
theorem f170_s {C H k s p : Nat} {g : Nat → Nat} {I : Nat → Nat → Int32} (hc : CH C H) (h : MD C H k s I) (hg : SM H g I) (hp' : p < C) : f_170 (nI p) I = some (nI (g (hp C H k p) + off C H k s p)) := by
  obtain ⟨c1, c2, c3, c4⟩ := hc
  have hl := hp_lt (k := k) c1 c3 hp'
  have h1 := h.2.1 p hp'
  have h2 := h.2.2.1 p hp'
  have h3 := hg _ hl
  have p6 : p < 60 := by omega
  have l6 : hp C H k p < 6 := by omega
  unfold f_170
  simp (disch := omega) only [inN, clN, p6, l6, if_true, h1, h2, h3, addN]
