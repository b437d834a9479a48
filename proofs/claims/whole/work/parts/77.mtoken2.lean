/-! the model's loops of a token -/
def UJ (J J' : Nat → Nat → Int64) : Prop := ∀ a k, ¬ (a = 97 ∧ k = 22) → J' a k = J a k
theorem UJ.refl (J : Nat → Nat → Int64) : UJ J J := fun _ _ _ => rfl
theorem UJ.trans {J J' J'' : Nat → Nat → Int64} (h : UJ J J') (h' : UJ J' J'') : UJ J J'' := fun a k z => (h' a k z).trans (h a k z)
theorem UJ.up {J J' : Nat → Nat → Int64} {v : Int64} (h : UJ J J') : UJ J (up J' 97 22 v) := fun a k z => by
  by_cases q : a = 97
  · subst q
    rw [up_nk (fun e => z ⟨rfl, e⟩)]
    exact h 97 k z
  · rw [up_ne q]
    exact h a k z
/-- the text that the model reads -/
def TM (t : Nat → Nat) (E : Nat) (I : Nat → Nat → Int32) : Prop := E ≤ 500 ∧ I 97 15 = nI E ∧ ∀ i, i < E → t i < 256 ∧ I 102 i = nI (t i)
section TM
variable {t : Nat → Nat} {E : Nat} {I : Nat → Nat → Int32}
theorem TM.u (h : TM t E I) {ks : List Nat} {I' : Nat → Nat → Int32} (u : Uk 97 ks I I') (h2 : 15 ∉ ks) : TM t E I' := ⟨h.1, by rw [u.2 15 h2]; exact h.2.1, fun i hi => by rw [u.1 102 (by decide)]; exact h.2.2 i hi⟩
theorem TM.at (h : TM t E I) {i : Nat} (hi : i < E) : f_137 (nI i) I = some (nI (t i)) := by
  obtain ⟨h1, h2, h3⟩ := h
  rw [f_137, h2, if_pos ((ltN (by omega) (by omega)).mpr hi), if_pos ((inN (by omega)).mpr (by omega)), clN (by omega), (h3 i hi).2]
  rfl
theorem TM.en (h : TM t E I) : f_137 (nI E) I = some (nI 0) := by
  rw [f_137, h.2.1, if_neg (Int32.lt_irrefl (a := nI E))]
  rfl
theorem f138_s {c : Nat} (hc : c < 256) : f_138 (nI c) = some (nI (if isLe c then 1 else 0)) := by
  unfold f_138 lb_138_1 lb_138_2
  have a : (nI c < (97 : Int32)) = (c < 97) := propext (ltN (b := 97) (by omega) (by decide))
  have b : ((122 : Int32) < nI c) = (122 < c) := propext (ltN (a := 122) (by decide) (by omega))
  simp only [a, b]
  by_cases q : c < 97
  · rw [if_pos q, if_neg (fun z : isLe c => by have := z.1; omega)]; rfl
  · by_cases q' : 122 < c
    · rw [if_neg q, if_pos q', if_neg (fun z : isLe c => by have := z.2; omega)]; rfl
    · rw [if_neg q, if_neg q', if_pos (show isLe c from ⟨by omega, by omega⟩)]; rfl
theorem f139_s {c : Nat} (hc : c < 256) : f_139 (nI c) = some (nI (if isDi c then 1 else 0)) := by
  unfold f_139 lb_139_1 lb_139_2
  have a : (nI c < (48 : Int32)) = (c < 48) := propext (ltN (b := 48) (by omega) (by decide))
  have b : ((57 : Int32) < nI c) = (57 < c) := propext (ltN (a := 57) (by decide) (by omega))
  simp only [a, b]
  by_cases q : c < 48
  · rw [if_pos q, if_neg (fun z : isDi c => by have := z.1; omega)]; rfl
  · by_cases q' : 57 < c
    · rw [if_neg q, if_pos q', if_neg (fun z : isDi c => by have := z.2; omega)]; rfl
    · rw [if_neg q, if_neg q', if_pos (show isDi c from ⟨by omega, by omega⟩)]; rfl
theorem m140_0 (J : Nat → Nat → Int64) : ∀ (j i m : Nat) (I : Nat → Nat → Int32), i + j = E → j < m → TM t E I → I 97 16 = nI i → ∃ I', fx (fun _ _ => none) bd_140_0 m I J = lb_140_2 I' J ∧ I' 97 16 = nI (skp isWs t j i) ∧ Uk 97 [16] I I' := by
  intro j
  induction j with
  | zero =>
    intro i m I e hm h h3
    cases m with
    | zero => omega
    | succ m =>
      obtain rfl : i = E := by omega
      refine ⟨I, ?_, h3, Uk.refl _ _ _⟩
      rw [fx_s, bd_140_0, h3, h.2.1, if_neg (Int32.lt_irrefl (a := nI i))]
  | succ j ih =>
    intro i m I e hm h h3
    cases m with
    | zero => omega
    | succ m =>
      have hE := h.1
      have hi : i < E := by omega
      have tl := (h.2.2 i hi).1
      have one : nI i + (1 : Int32) = nI (i + 1) := addN i 1
      rw [skp]
      have u : Uk 97 [16] I (up I 97 16 (nI (i + 1))) := (Uk.refl _ _ _).up (by decide)
      have head : fx (fun _ _ => none) bd_140_0 (m + 1) I J = if isWs (t i) then fx (fun _ _ => none) bd_140_0 m (up I 97 16 (nI (i + 1))) J else lb_140_2 I J := by
        rw [fx_s, bd_140_0, h3, h.2.1, if_pos ((ltN (by omega) (by omega)).mpr hi), h.at hi, Option.bind_some, Option.bind_some]
        unfold lb_140_1
        rw [h3, one]
        by_cases q : t i = 32
        · rw [if_pos (show nI (t i) = (32 : Int32) by rw [q]; rfl), if_pos (show isWs (t i) from Or.inl q)]
        · rw [if_neg (show ¬ nI (t i) = (32 : Int32) from fun z => q ((eqN (b := 32) (by omega) (by decide)).mp z))]
          by_cases q2 : t i = 10
          · rw [if_pos (show nI (t i) = (10 : Int32) by rw [q2]; rfl), if_pos (show isWs (t i) from Or.inr q2)]
          · rw [if_neg (show ¬ nI (t i) = (10 : Int32) from fun z => q2 ((eqN (b := 10) (by omega) (by decide)).mp z)), if_neg (show ¬ isWs (t i) from fun z => z.elim q q2)]
      by_cases q : isWs (t i)
      · obtain ⟨I', a1, a2, a3⟩ := ih (i + 1) m (up I 97 16 (nI (i + 1))) (by omega) (by omega) (h.u u (by decide)) up_at
        exact ⟨I', by rw [head, if_pos q]; exact a1, by rw [if_pos q]; exact a2, u.trans a3⟩
      · exact ⟨I, by rw [head, if_neg q], by rw [if_neg q]; exact h3, Uk.refl _ _ _⟩
/-- the end of a token's reading -/
theorem l15 {s e k : Nat} {J : Nat → Nat → Int64} (hs : s ≤ e) (h16 : I 97 16 = nI e) (h18 : I 97 18 = nI s) (h17 : I 97 17 = nI k) : ∃ I', lb_140_15 I J = some (I', J) ∧ I' 97 19 = nI (e - s) ∧ I' 97 16 = nI e ∧ I' 97 18 = nI s ∧ I' 97 17 = nI k ∧ Uk 97 [19] I I' := by
  refine ⟨up I 97 19 (nI (e - s)), ?_, up_at, by rw [up_nk (by decide)]; exact h16, by rw [up_nk (by decide)]; exact h18, by rw [up_nk (by decide)]; exact h17, (Uk.refl _ _ _).up (by decide)⟩
  unfold lb_140_15
  rw [h16, h18, subN hs]
theorem l32 : ∀ k, k < 32 → (nI k).toInt64 = lN k := by decide +kernel
theorem m140_4 {s : Nat} : ∀ (j i m : Nat) (I : Nat → Nat → Int32) (J : Nat → Nat → Int64), i + j = E → j < m → s ≤ i → (∀ x, s ≤ x → x < i → isLe (t x)) → TM t E I → I 97 16 = nI i → I 97 18 = nI s → J 97 22 = lN (pkl t s (min 5 (i - s))) → ∃ I' J', fx (fun _ _ => none) bd_140_4 m I J = some (I', J') ∧ I' 97 16 = nI (skp isLe t j i) ∧ I' 97 18 = nI s ∧ I' 97 17 = nI 1 ∧ I' 97 19 = nI (skp isLe t j i - s) ∧ J' 97 22 = lN (pkl t s (min 5 (skp isLe t j i - s))) ∧ Uk 97 [16, 17, 19] I I' ∧ UJ J J' := by
  intro j
  induction j with
  | zero =>
    intro i m I J e hm hs hd h h3 h4 h7
    cases m with
    | zero => omega
    | succ m =>
      obtain rfl : i = E := by omega
      obtain ⟨I', a1, a2, a3, a4, a5, a6⟩ := l15 (I := up I 97 17 (nI 1)) (J := J) (k := 1) hs (by rw [up_nk (by decide)]; exact h3) (by rw [up_nk (by decide)]; exact h4) up_at
      refine ⟨I', J, ?_, a3, a4, a5, a2, h7, ((Uk.refl _ _ _).up (by decide)).trans (a6.mono (by decide)), UJ.refl J⟩
      rw [fx_s, bd_140_4, h3, h.en, Option.bind_some, f138_s (by decide), Option.bind_some, if_pos (by decide)]
      exact a1
  | succ j ih =>
    intro i m I J e hm hs hd h h3 h4 h7
    cases m with
    | zero => omega
    | succ m =>
      have hE := h.1
      have hi : i < E := by omega
      have one : nI i + (1 : Int32) = nI (i + 1) := addN i 1
      have tl := (h.2.2 i hi).1
      rw [skp]
      by_cases q : isLe (t i)
      · have hd' : ∀ x, s ≤ x → x < i + 1 → isLe (t x) := fun x h1 h2 => by
          by_cases z : x = i
          · rw [z]; exact q
          · exact hd x h1 (by omega)
        have u : Uk 97 [16, 17, 19] I (up I 97 16 (nI (i + 1))) := (Uk.refl _ _ _).up (by decide)
        have head : fx (fun _ _ => none) bd_140_4 (m + 1) I J = if i - s < 5 then fx (fun _ _ => none) bd_140_4 m (up I 97 16 (nI (i + 1))) (up J 97 22 (((J 97 22) <<< (((5 : Int32)).toInt64 &&& 63)) ||| ((nI (t i) - (96 : Int32))).toInt64)) else fx (fun _ _ => none) bd_140_4 m (up I 97 16 (nI (i + 1))) J := by
          rw [fx_s, bd_140_4, h3, h.at hi, Option.bind_some, f138_s tl, Option.bind_some, b01, if_pos q, h4, subN hs]
          unfold lb_140_5
          rw [h3, one]
          by_cases z : i - s < 5
          · rw [if_pos z, if_pos (show nI (i - s) < (5 : Int32) from (ltN (b := 5) (by omega) (by decide)).mpr z), Option.bind_some]
          · rw [if_neg z, if_neg (show ¬ nI (i - s) < (5 : Int32) from fun y => z ((ltN (b := 5) (by omega) (by decide)).mp y))]
        rw [if_pos q]
        by_cases z : i - s < 5
        · rw [Nat.min_eq_right (show i - s ≤ 5 by omega)] at h7
          have lt := pkl_lt (t := t) (s := s) (i - s) (fun x hx => hd (s + x) (by omega) (by omega))
          have p4 : 32 ^ (i - s) ≤ 32 ^ 4 := Nat.pow_le_pow_right (by decide) (by omega)
          have hc := q
          obtain ⟨hc1, hc2⟩ := hc
          have val : ((J 97 22) <<< (((5 : Int32)).toInt64 &&& 63)) ||| ((nI (t i) - (96 : Int32))).toInt64 = lN (pkl t s (i + 1 - s)) := by
            rw [h7, show nI (t i) - (96 : Int32) = nI (t i - 96) from subN (b := 96) (by omega), l32 _ (by omega), show (5 : Int32) = nI 5 from rfl, wb_shl _ (by decide), wb_or (by omega) (by omega), show i + 1 - s = (i - s) + 1 by omega, pkl, show s + (i - s) = i by omega]
            congr 1
            have := Nat.two_pow_add_eq_or_of_lt (b := t i - 96) (i := 5) (by omega) (pkl t s (i - s))
            rw [Nat.mul_comm] at this
            exact this.symm
          obtain ⟨I', J', a1, a2, a3, a4, a5, a6, a7, a8⟩ := ih (i + 1) m (up I 97 16 (nI (i + 1))) (up J 97 22 (lN (pkl t s (i + 1 - s)))) (by omega) (by omega) (by omega) hd' (h.u u (by decide)) up_at (by rw [u.2 18 (by decide)]; exact h4) (by rw [up_at, Nat.min_eq_right (by omega)])
          exact ⟨I', J', by rw [head, if_pos z, val]; exact a1, a2, a3, a4, a5, a6, u.trans a7, ((UJ.refl J).up).trans a8⟩
        · rw [Nat.min_eq_left (show 5 ≤ i - s by omega)] at h7
          obtain ⟨I', J', a1, a2, a3, a4, a5, a6, a7, a8⟩ := ih (i + 1) m (up I 97 16 (nI (i + 1))) J (by omega) (by omega) (by omega) hd' (h.u u (by decide)) up_at (by rw [u.2 18 (by decide)]; exact h4) (by rw [Nat.min_eq_left (show 5 ≤ i + 1 - s by omega)]; exact h7)
          exact ⟨I', J', by rw [head, if_neg z]; exact a1, a2, a3, a4, a5, a6, u.trans a7, a8⟩
      · obtain ⟨I', a1, a2, a3, a4, a5, a6⟩ := l15 (I := up I 97 17 (nI 1)) (J := J) (k := 1) hs (by rw [up_nk (by decide)]; exact h3) (by rw [up_nk (by decide)]; exact h4) up_at
        rw [if_neg q]
        refine ⟨I', J, ?_, a3, a4, a5, a2, h7, ((Uk.refl _ _ _).up (by decide)).trans (a6.mono (by decide)), UJ.refl J⟩
        rw [fx_s, bd_140_4, h3, h.at hi, Option.bind_some, f138_s tl, Option.bind_some, b01, if_neg q]
        exact a1
theorem m140_8 {s : Nat} (J : Nat → Nat → Int64) : ∀ (j i m : Nat) (I : Nat → Nat → Int32), i + j = E → j < m → s ≤ i → (∀ x, s ≤ x → x < i → isDi (t x)) → TM t E I → I 97 16 = nI i → I 97 18 = nI s → I 97 20 = nI (dvl t s (min 4 (i - s))) → ∃ I', fx (fun _ _ => none) bd_140_8 m I J = some (I', J) ∧ I' 97 16 = nI (skp isDi t j i) ∧ I' 97 18 = nI s ∧ I' 97 17 = nI 2 ∧ I' 97 19 = nI (skp isDi t j i - s) ∧ I' 97 20 = nI (dvl t s (min 4 (skp isDi t j i - s))) ∧ Uk 97 [16, 17, 19, 20] I I' := by
  intro j
  induction j with
  | zero =>
    intro i m I e hm hs hd h h3 h4 h7
    cases m with
    | zero => omega
    | succ m =>
      obtain rfl : i = E := by omega
      obtain ⟨I', a1, a2, a3, a4, a5, a6⟩ := l15 (I := up I 97 17 (nI 2)) (J := J) (k := 2) hs (by rw [up_nk (by decide)]; exact h3) (by rw [up_nk (by decide)]; exact h4) up_at
      refine ⟨I', ?_, a3, a4, a5, a2, by rw [a6.2 20 (by decide), up_nk (by decide)]; exact h7, ((Uk.refl _ _ _).up (by decide)).trans (a6.mono (by decide))⟩
      rw [fx_s, bd_140_8, h3, h.en, Option.bind_some, f139_s (by decide), Option.bind_some, if_pos (by decide)]
      exact a1
  | succ j ih =>
    intro i m I e hm hs hd h h3 h4 h7
    cases m with
    | zero => omega
    | succ m =>
      have hE := h.1
      have hi : i < E := by omega
      have one : nI i + (1 : Int32) = nI (i + 1) := addN i 1
      have tl := (h.2.2 i hi).1
      rw [skp]
      by_cases q : isDi (t i)
      · have hd' : ∀ x, s ≤ x → x < i + 1 → isDi (t x) := fun x h1 h2 => by
          by_cases z : x = i
          · rw [z]; exact q
          · exact hd x h1 (by omega)
        have head : fx (fun _ _ => none) bd_140_8 (m + 1) I J = if i - s < 4 then fx (fun _ _ => none) bd_140_8 m (up (up I 97 20 ((((10 : Int32) * (I 97 20)) + nI (t i)) - (48 : Int32))) 97 16 (nI (i + 1))) J else fx (fun _ _ => none) bd_140_8 m (up I 97 16 (nI (i + 1))) J := by
          rw [fx_s, bd_140_8, h3, h.at hi, Option.bind_some, f139_s tl, Option.bind_some, b01, if_pos q, h4, subN hs]
          unfold lb_140_9
          by_cases z : i - s < 4
          · rw [if_pos z, if_pos (show nI (i - s) < (4 : Int32) from (ltN (b := 4) (by omega) (by decide)).mpr z), Option.bind_some]
            dsimp only
            rw [up_nk (by decide), h3, one]
          · rw [if_neg z, if_neg (show ¬ nI (i - s) < (4 : Int32) from fun y => z ((ltN (b := 4) (by omega) (by decide)).mp y)), h3, one]
        rw [if_pos q]
        by_cases z : i - s < 4
        · rw [Nat.min_eq_right (show i - s ≤ 4 by omega)] at h7
          have lt := dvl_lt (t := t) (s := s) (i - s) (fun x hx => hd (s + x) (by omega) (by omega))
          have p4 : 10 ^ (i - s) ≤ 10 ^ 3 := Nat.pow_le_pow_right (by decide) (by omega)
          have hc := q
          obtain ⟨hc1, hc2⟩ := hc
          have val : (((10 : Int32) * (I 97 20)) + nI (t i)) - (48 : Int32) = nI (dvl t s (i + 1 - s)) := by
            rw [h7, show (10 : Int32) = nI 10 from rfl, mulN, addN, show (48 : Int32) = nI 48 from rfl, subN (by omega), show i + 1 - s = (i - s) + 1 by omega, dvl, show s + (i - s) = i by omega]
          have u : Uk 97 [16, 17, 19, 20] I (up (up I 97 20 (nI (dvl t s (i + 1 - s)))) 97 16 (nI (i + 1))) := ((Uk.refl _ _ _).up (by decide)).up (by decide)
          obtain ⟨I', a1, a2, a3, a4, a5, a6, a7⟩ := ih (i + 1) m _ (by omega) (by omega) (by omega) hd' (h.u u (by decide)) up_at (by rw [u.2 18 (by decide)]; exact h4) (by rw [up_nk (by decide), up_at, Nat.min_eq_right (by omega)])
          exact ⟨I', by rw [head, if_pos z, val]; exact a1, a2, a3, a4, a5, a6, u.trans a7⟩
        · rw [Nat.min_eq_left (show 4 ≤ i - s by omega)] at h7
          have u : Uk 97 [16, 17, 19, 20] I (up I 97 16 (nI (i + 1))) := (Uk.refl _ _ _).up (by decide)
          obtain ⟨I', a1, a2, a3, a4, a5, a6, a7⟩ := ih (i + 1) m _ (by omega) (by omega) (by omega) hd' (h.u u (by decide)) up_at (by rw [u.2 18 (by decide)]; exact h4) (by rw [up_nk (by decide), Nat.min_eq_left (show 4 ≤ i + 1 - s by omega)]; exact h7)
          exact ⟨I', by rw [head, if_neg z]; exact a1, a2, a3, a4, a5, a6, u.trans a7⟩
      · obtain ⟨I', a1, a2, a3, a4, a5, a6⟩ := l15 (I := up I 97 17 (nI 2)) (J := J) (k := 2) hs (by rw [up_nk (by decide)]; exact h3) (by rw [up_nk (by decide)]; exact h4) up_at
        rw [if_neg q]
        refine ⟨I', ?_, a3, a4, a5, a2, by rw [a6.2 20 (by decide), up_nk (by decide)]; exact h7, ((Uk.refl _ _ _).up (by decide)).trans (a6.mono (by decide))⟩
        rw [fx_s, bd_140_8, h3, h.at hi, Option.bind_some, f139_s tl, Option.bind_some, b01, if_neg q]
        exact a1
end TM
