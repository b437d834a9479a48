/-! tokens: what a text's next token is, the class's reading of it -/
abbrev isWs (c : Nat) : Prop := c = 32 ∨ c = 10
abbrev isLe (c : Nat) : Prop := 97 ≤ c ∧ c ≤ 122
abbrev isDi (c : Nat) : Prop := 48 ≤ c ∧ c ≤ 57
def skp (p : Nat → Prop) [DecidablePred p] (t : Nat → Nat) : Nat → Nat → Nat
  | 0, i => i
  | j + 1, i => if p (t i) then skp p t j (i + 1) else i
theorem skp_le {p : Nat → Prop} [DecidablePred p] {t : Nat → Nat} : ∀ j i, i ≤ skp p t j i ∧ skp p t j i ≤ i + j
  | 0, i => ⟨Nat.le_refl i, Nat.le_refl i⟩
  | j + 1, i => by
    obtain ⟨h1, h2⟩ := skp_le (p := p) (t := t) j (i + 1)
    rw [skp]
    split <;> omega
theorem skp_all {p : Nat → Prop} [DecidablePred p] {t : Nat → Nat} : ∀ j i x, i ≤ x → x < skp p t j i → p (t x)
  | 0, i, x, h1, h2 => by rw [skp] at h2; omega
  | j + 1, i, x, h1, h2 => by
    rw [skp] at h2
    split at h2
    · next q =>
      by_cases z : x = i
      · rw [z]; exact q
      · exact skp_all j (i + 1) x (by omega) h2
    · omega
/-- the number of the digits -/
def dvl (t : Nat → Nat) (s : Nat) : Nat → Nat
  | 0 => 0
  | n + 1 => 10 * dvl t s n + t (s + n) - 48
theorem dvl_lt {t : Nat → Nat} {s : Nat} : ∀ n, (∀ x, x < n → isDi (t (s + x))) → dvl t s n < 10 ^ n
  | 0, _ => by rw [dvl]; decide
  | n + 1, h => by
    have ih := dvl_lt n (fun x hx => h x (by omega))
    have l := (h n (by omega)).2
    rw [dvl, Nat.pow_succ]
    omega
/-- letters packed -/
def pkl (t : Nat → Nat) (s : Nat) : Nat → Nat
  | 0 => 0
  | n + 1 => pkl t s n * 32 + (t (s + n) - 96)
/-- the class's words -/
def wtx (w : Nat) : List Nat := [[99, 97, 114, 100, 115], [104, 101, 97, 112, 115], [108, 105, 101, 115], [119, 105, 115, 104], [100, 101, 97, 108], [110, 97, 109, 101, 100], [115, 105, 122, 101], [116, 117, 114, 110], [102, 114, 111], [114, 117, 110], [117, 110, 100, 101, 114], [111, 118, 101, 114], [97, 116], [111, 114], [97, 110, 100], [110, 111, 116], []].getD w []
def eqw (t : Nat → Nat) (s n w : Nat) : Prop := n = (wtx w).length ∧ ∀ i, i < n → t (s + i) = (wtx w).getD i 0
/-- what the texts of the words are -/
def WZ (I : Nat → Nat → Int32) : Prop := ∀ w, w < 17 → I (18 + w) 1 = 0 ∧ ∀ i, i < (wtx w).length → I (35 + w) i = nI ((wtx w).getD i 0)
/-- the text that the class reads -/
def TC (t : Nat → Nat) (E : Nat) (I : Nat → Nat → Int32) : Prop := E ≤ 500 ∧ I 60 2 = nI E ∧ ∀ i, i < E → t i < 256 ∧ (I 61 i &&& 255) = nI (t i)
theorem TC.fr {t : Nat → Nat} {E : Nat} {I I' : Nat → Nat → Int32} (h : TC t E I) (h2 : I' 60 2 = I 60 2) (h3 : I' 61 = I 61) : TC t E I' := ⟨h.1, by rw [h2]; exact h.2.1, fun i hi => by rw [h3]; exact h.2.2 i hi⟩
/-- only some cells of a thing changed -/
def Uk (a : Nat) (ks : List Nat) (I I' : Nat → Nat → Int32) : Prop := Fr [a] I I' ∧ ∀ k, k ∉ ks → I' a k = I a k
theorem Uk.refl (a : Nat) (ks : List Nat) (I : Nat → Nat → Int32) : Uk a ks I I := ⟨Fr.refl _ _, fun _ _ => rfl⟩
theorem Uk.trans {a : Nat} {ks : List Nat} {I I' I'' : Nat → Nat → Int32} (h : Uk a ks I I') (h' : Uk a ks I' I'') : Uk a ks I I'' := ⟨h.1.trans h'.1, fun k hk => (h'.2 k hk).trans (h.2 k hk)⟩
theorem Uk.up {a k : Nat} {ks : List Nat} {I I' : Nat → Nat → Int32} {v : Int32} (h : Uk a ks I I') (hk : k ∈ ks) : Uk a ks I (up I' a k v) := ⟨h.1.up (List.mem_singleton.mpr rfl), fun j hj => by
  rw [up_nk (show j ≠ k from fun e => hj (by rw [e]; exact hk))]
  exact h.2 j hj⟩
theorem Uk.mono {a : Nat} {ks ls : List Nat} {I I' : Nat → Nat → Int32} (h : Uk a ks I I') (s : ∀ k, k ∈ ks → k ∈ ls) : Uk a ls I I' := ⟨h.1, fun k hk => h.2 k (fun w => hk (s k w))⟩
section TC
variable {t : Nat → Nat} {E : Nat} {I : Nat → Nat → Int32}
theorem TC.u (h : TC t E I) {ks : List Nat} {I' : Nat → Nat → Int32} (u : Uk 60 ks I I') (h2 : 2 ∉ ks) : TC t E I' := h.fr (u.2 2 h2) (u.1 61 (by decide))
theorem TC.at (h : TC t E I) {i : Nat} (hi : i < E) : f_77 (nI i) I = some (nI (t i)) := by
  obtain ⟨h1, h2, h3⟩ := h
  have n0 : ¬ nI i < 0 := negN (by omega)
  rw [f_77, if_neg n0, h2, if_pos ((ltN (by omega) (by omega)).mpr hi), if_pos ((ltN (by omega) (by decide)).mpr (by omega)), if_pos ((inN (by omega)).mpr (by omega)), clN (by omega), (h3 i hi).2]
  rfl
theorem f78_s {c : Nat} (hc : c < 256) : f_78 (nI c) = some (nI (if isWs c then 1 else 0)) := by
  unfold f_78 lb_78_1 lb_78_3
  have a : (nI c = (32 : Int32)) = (c = 32) := propext (eqN (b := 32) (by omega) (by decide))
  have b : (nI c = (10 : Int32)) = (c = 10) := propext (eqN (b := 10) (by omega) (by decide))
  simp only [a, b]
  by_cases q : c = 32
  · rw [if_pos q, if_pos (Or.inl q)]; rfl
  · by_cases q' : c = 10
    · rw [if_neg q, if_pos q', if_pos (Or.inr q')]; rfl
    · rw [if_neg q, if_neg q', if_neg (show ¬ isWs c from fun z => z.elim q q')]; rfl
theorem f79_s {c : Nat} (hc : c < 256) : f_79 (nI c) = some (nI (if isLe c then 1 else 0)) := by
  unfold f_79 lb_79_1 lb_79_2
  have a : (nI c < (97 : Int32)) = (c < 97) := propext (ltN (b := 97) (by omega) (by decide))
  have b : ((122 : Int32) < nI c) = (122 < c) := propext (ltN (a := 122) (by decide) (by omega))
  simp only [a, b]
  by_cases q : c < 97
  · rw [if_pos q, if_neg (fun z : isLe c => by have := z.1; omega)]; rfl
  · by_cases q' : 122 < c
    · rw [if_neg q, if_pos q', if_neg (fun z : isLe c => by have := z.2; omega)]; rfl
    · rw [if_neg q, if_neg q', if_pos (show isLe c from ⟨by omega, by omega⟩)]; rfl
theorem f80_s {c : Nat} (hc : c < 256) : f_80 (nI c) = some (nI (if isDi c then 1 else 0)) := by
  unfold f_80 lb_80_1 lb_80_2
  have a : (nI c < (48 : Int32)) = (c < 48) := propext (ltN (b := 48) (by omega) (by decide))
  have b : ((57 : Int32) < nI c) = (57 < c) := propext (ltN (a := 57) (by decide) (by omega))
  simp only [a, b]
  by_cases q : c < 48
  · rw [if_pos q, if_neg (fun z : isDi c => by have := z.1; omega)]; rfl
  · by_cases q' : 57 < c
    · rw [if_neg q, if_pos q', if_neg (fun z : isDi c => by have := z.2; omega)]; rfl
    · rw [if_neg q, if_neg q', if_pos (show isDi c from ⟨by omega, by omega⟩)]; rfl
theorem b01 {p : Prop} [Decidable p] {α : Type} {x y : α} : (if nI (if p then 1 else 0) = 0 then x else y) = if p then y else x := by
  by_cases q : p
  · rw [if_pos q, if_pos q, if_neg (by decide)]
  · rw [if_neg q, if_neg q, if_pos (by decide)]
theorem c72_0 (W : Nat) : ∀ (j i m : Nat) (I : Nat → Nat → Int32), i + j = E → j < m → TC t E I → I 60 3 = nI i → ∃ I', fx (fun _ _ => none) bd_72_0 m I W = lb_72_1 I' W ∧ I' 60 3 = nI (skp isWs t j i) ∧ Uk 60 [3] I I' := by
  intro j
  induction j with
  | zero =>
    intro i m I e hm h h3
    cases m with
    | zero => omega
    | succ m =>
      obtain rfl : i = E := by omega
      refine ⟨I, ?_, h3, Uk.refl _ _ _⟩
      rw [fx_s, bd_72_0, h3, h.2.1, if_neg (Int32.lt_irrefl (a := nI i))]
  | succ j ih =>
    intro i m I e hm h h3
    cases m with
    | zero => omega
    | succ m =>
      have hE := h.1
      have hi : i < E := by omega
      have one : nI i + (1 : Int32) = nI (i + 1) := addN i 1
      rw [skp]
      by_cases q : isWs (t i)
      · have u : Uk 60 [3] I (up I 60 3 (nI (i + 1))) := (Uk.refl _ _ _).up (by decide)
        obtain ⟨I', a1, a2, a3⟩ := ih (i + 1) m (up I 60 3 (nI (i + 1))) (by omega) (by omega) (h.u u (by decide)) up_at
        refine ⟨I', ?_, by rw [if_pos q]; exact a2, u.trans a3⟩
        rw [fx_s, bd_72_0, h3, h.2.1, if_pos ((ltN (by omega) (by omega)).mpr hi), h.at hi, Option.bind_some, f78_s (h.2.2 i hi).1, Option.bind_some, b01, if_pos q, one]
        exact a1
      · refine ⟨I, ?_, by rw [if_neg q]; exact h3, Uk.refl _ _ _⟩
        rw [fx_s, bd_72_0, h3, h.2.1, if_pos ((ltN (by omega) (by omega)).mpr hi), h.at hi, Option.bind_some, f78_s (h.2.2 i hi).1, Option.bind_some, b01, if_neg q]
theorem c74_1 {s : Nat} : ∀ (j i m : Nat) (I : Nat → Nat → Int32), i + j = E → j < m → s ≤ i → (∀ x, s ≤ x → x < i → isDi (t x)) → TC t E I → I 60 3 = nI i → I 60 4 = nI s → I 60 7 = nI (dvl t s (min 4 (i - s))) → ∃ I', fx (fun _ => none) bd_74_1 m I = some I' ∧ I' 60 3 = nI (skp isDi t j i) ∧ I' 60 7 = nI (dvl t s (min 4 (skp isDi t j i - s))) ∧ Uk 60 [3, 7] I I' := by
  intro j
  induction j with
  | zero =>
    intro i m I e hm hs hd h h3 h4 h7
    cases m with
    | zero => omega
    | succ m =>
      obtain rfl : i = E := by omega
      refine ⟨I, ?_, h3, h7, Uk.refl _ _ _⟩
      rw [fx_s, bd_74_1, h3, h.2.1, if_neg (Int32.lt_irrefl (a := nI i))]
      rfl
  | succ j ih =>
    intro i m I e hm hs hd h h3 h4 h7
    cases m with
    | zero => omega
    | succ m =>
      have hE := h.1
      have hi : i < E := by omega
      have one : nI i + (1 : Int32) = nI (i + 1) := addN i 1
      rw [skp]
      by_cases q : isDi (t i)
      · have hd' : ∀ x, s ≤ x → x < i + 1 → isDi (t x) := fun x h1 h2 => by
          by_cases z : x = i
          · rw [z]; exact q
          · exact hd x h1 (by omega)
        have head : fx (fun _ => none) bd_74_1 (m + 1) I = if i - s < 4 then fx (fun _ => none) bd_74_1 m (up (up I 60 7 ((((10 : Int32) * (I 60 7)) + nI (t i)) - (48 : Int32))) 60 3 (nI (i + 1))) else fx (fun _ => none) bd_74_1 m (up I 60 3 (nI (i + 1))) := by
          rw [fx_s, bd_74_1, h3, h.2.1, if_pos ((ltN (by omega) (by omega)).mpr hi), h.at hi, Option.bind_some, f80_s (h.2.2 i hi).1, Option.bind_some, b01, if_pos q, h4, subN hs]
          unfold lb_74_2
          by_cases z : i - s < 4
          · rw [if_pos z, if_pos (show nI (i - s) < (4 : Int32) from (ltN (b := 4) (by omega) (by decide)).mpr z), Option.bind_some]
            dsimp only
            rw [up_nk (by decide), h3, one]
          · rw [if_neg z, if_neg (show ¬ nI (i - s) < (4 : Int32) from fun y => z ((ltN (b := 4) (by omega) (by decide)).mp y)), h3, one]
        rw [if_pos q]
        by_cases z : i - s < 4
        · rw [Nat.min_eq_right (show i - s ≤ 4 by omega)] at h7
          have lt := dvl_lt (t := t) (s := s) (i - s) (fun x hx => hd (s + x) (by omega) (by omega))
          have p4 : 10 ^ (i - s) ≤ 10 ^ 3 := Nat.pow_le_pow_right (by decide) (by omega)
          have hc := q
          obtain ⟨hc1, hc2⟩ := hc
          have val : (((10 : Int32) * (I 60 7)) + nI (t i)) - (48 : Int32) = nI (dvl t s (i + 1 - s)) := by
            rw [h7, show (10 : Int32) = nI 10 from rfl, mulN, addN, show (48 : Int32) = nI 48 from rfl, subN (by omega), show i + 1 - s = (i - s) + 1 by omega, dvl, show s + (i - s) = i by omega]
          have u : Uk 60 [3, 7] I (up (up I 60 7 (nI (dvl t s (i + 1 - s)))) 60 3 (nI (i + 1))) := ((Uk.refl _ _ _).up (by decide)).up (by decide)
          obtain ⟨I', a1, a2, a3, a4⟩ := ih (i + 1) m _ (by omega) (by omega) (by omega) hd' (h.u u (by decide)) up_at (by rw [u.2 4 (by decide)]; exact h4) (by rw [up_nk (by decide), up_at, Nat.min_eq_right (by omega)])
          exact ⟨I', by rw [head, if_pos z, val]; exact a1, a2, a3, u.trans a4⟩
        · rw [Nat.min_eq_left (show 4 ≤ i - s by omega)] at h7
          have u : Uk 60 [3, 7] I (up I 60 3 (nI (i + 1))) := (Uk.refl _ _ _).up (by decide)
          obtain ⟨I', a1, a2, a3, a4⟩ := ih (i + 1) m _ (by omega) (by omega) (by omega) hd' (h.u u (by decide)) up_at (by rw [u.2 4 (by decide)]; exact h4) (by rw [up_nk (by decide), Nat.min_eq_left (show 4 ≤ i + 1 - s by omega)]; exact h7)
          exact ⟨I', by rw [head, if_neg z]; exact a1, a2, a3, u.trans a4⟩
      · refine ⟨I, ?_, by rw [if_neg q]; exact h3, by rw [if_neg q]; exact h7, Uk.refl _ _ _⟩
        rw [fx_s, bd_74_1, h3, h.2.1, if_pos ((ltN (by omega) (by omega)).mpr hi), h.at hi, Option.bind_some, f80_s (h.2.2 i hi).1, Option.bind_some, b01, if_neg q]
        rfl
theorem c73_1 (W : Nat) : ∀ (j i m : Nat) (I : Nat → Nat → Int32), i + j = E → j < m → TC t E I → I 60 3 = nI i → ∃ I', fx (fun _ _ => none) bd_73_1 m I W = lb_73_2 I' W ∧ I' 60 3 = nI (skp isLe t j i) ∧ Uk 60 [3] I I' := by
  intro j
  induction j with
  | zero =>
    intro i m I e hm h h3
    cases m with
    | zero => omega
    | succ m =>
      obtain rfl : i = E := by omega
      refine ⟨I, ?_, h3, Uk.refl _ _ _⟩
      rw [fx_s, bd_73_1, h3, h.2.1, if_neg (Int32.lt_irrefl (a := nI i))]
  | succ j ih =>
    intro i m I e hm h h3
    cases m with
    | zero => omega
    | succ m =>
      have hE := h.1
      have hi : i < E := by omega
      have one : nI i + (1 : Int32) = nI (i + 1) := addN i 1
      rw [skp]
      by_cases q : isLe (t i)
      · have u : Uk 60 [3] I (up I 60 3 (nI (i + 1))) := (Uk.refl _ _ _).up (by decide)
        obtain ⟨I', a1, a2, a3⟩ := ih (i + 1) m (up I 60 3 (nI (i + 1))) (by omega) (by omega) (h.u u (by decide)) up_at
        refine ⟨I', ?_, by rw [if_pos q]; exact a2, u.trans a3⟩
        rw [fx_s, bd_73_1, h3, h.2.1, if_pos ((ltN (by omega) (by omega)).mpr hi), h.at hi, Option.bind_some, f79_s (h.2.2 i hi).1, Option.bind_some, b01, if_pos q, one]
        exact a1
      · refine ⟨I, ?_, by rw [if_neg q]; exact h3, Uk.refl _ _ _⟩
        rw [fx_s, bd_73_1, h3, h.2.1, if_pos ((ltN (by omega) (by omega)).mpr hi), h.at hi, Option.bind_some, f79_s (h.2.2 i hi).1, Option.bind_some, b01, if_neg q]
end TC
