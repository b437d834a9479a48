/-! the class works a rule -/
theorem f44_s (c a b : Int32) (h : c = -7 ∨ c = -8 ∨ c = -10 ∨ c = -11 ∨ c = -12 ∨ c = -13 ∨ c = -14 ∨ c = -15) : f_44 c a b = some (jn c a b) := by
  rcases h with rfl | rfl | rfl | rfl | rfl | rfl | rfl | rfl
  · show (if a = 0 then (if b = 0 then some (0 : Int32) else some 1) else some 1) = some (if a = 0 ∧ b = 0 then 0 else 1)
    by_cases h1 : a = 0
    · by_cases h2 : b = 0
      · rw [if_pos h1, if_pos h2, if_pos ⟨h1, h2⟩]
      · rw [if_pos h1, if_neg h2, if_neg (fun h => h2 h.2)]
    · rw [if_neg h1, if_neg (fun h => h1 h.1)]
  · show (if a = 0 then some (0 : Int32) else (if b = 0 then some 0 else some 1)) = some (if a = 0 ∨ b = 0 then 0 else 1)
    by_cases h1 : a = 0
    · rw [if_pos h1, if_pos (Or.inl h1)]
    · by_cases h2 : b = 0
      · rw [if_neg h1, if_pos h2, if_pos (Or.inr h2)]
      · rw [if_neg h1, if_neg h2, if_neg (fun h => h.elim h1 h2)]
  · show (if a < b then some (1 : Int32) else some 0) = some (if a < b then 1 else 0)
    split <;> rfl
  · show (if a = b then some (1 : Int32) else some 0) = some (if a = b then 1 else 0)
    split <;> rfl
  · rfl
  · rfl
  · rfl
  · show (if b = 0 then some (0 : Int32) else if b = 0 then none else some (a / b)) = some (if b = 0 then 0 else a / b)
    by_cases h : b = 0
    · rw [if_pos h, if_pos h]
    · rw [if_neg h, if_neg h, if_neg h]
theorem rulec {v : Int32 → Int32} {d en : Nat} (hd : d < 8) (hen : en ≤ 500) : ∀ (P : List Int32) (st : List Int32) (x : Int32) (a n : Nat) (I : Nat → Nat → Int32), P.length < n → a + P.length = en → I 69 d = nI en → Row (I 68) a P → Pile (I 73) st → st.length ≤ 40 → (∀ j, j < 6 → I 72 j = v (-1 - nI j)) → evL v P st = some [x] → ∃ I', fx (fun _ _ _ _ => none) bd_43_3 n (nI d) (nI st.length) (nI a) I = some (x, I') ∧ Fr [73] I I'
  | _, _, _, _, 0, _, hn, _, _, _, _, _, _, _ => absurd hn (Nat.not_lt_zero _)
  | [], st, x, a, n + 1, I, _, ha, h69, hr, hp, _, hv, he => by
    rw [evL] at he
    cases he
    have p0 : I 73 0 = x := (Pile.top hp).1
    have a69 : atf (I 69) 8 (nI d) = nI en := by rw [atN hd (by decide)]; exact h69
    have a73 : atf (I 73) 50 (0 : Int32) = x := by rw [show (0 : Int32) = nI 0 from rfl, atN (by decide) (by decide)]; exact p0
    rw [List.length_nil, Nat.add_zero] at ha
    refine ⟨I, ?_, Fr.refl _ _⟩
    rw [fx_s, bd_43_3, a69, ha, if_neg (Int32.lt_irrefl (a := nI en)), a73]
  | c :: P, st, x, a, n + 1, I, hn, ha, h69, hr, hp, hl, hv, he => by
    rw [List.length_cons] at hn ha
    rw [evL] at he
    obtain ⟨st2, e1, e2⟩ : ∃ st2, ev1 v c st = some st2 ∧ evL v P st2 = some [x] := by
      cases q : ev1 v c st with
      | none => rw [q] at he; cases he
      | some st2 => rw [q] at he; exact ⟨st2, rfl, he⟩
    obtain ⟨r1, r2⟩ := Row.cons hr
    have a69 : atf (I 69) 8 (nI d) = nI en := by rw [atN hd (by decide)]; exact h69
    have a68 : atf (I 68) 500 (nI a) = c := by rw [atN (by omega) (by decide)]; exact r1
    have lt : nI a < nI en := (ltN (by omega) (by omega)).mpr (by omega)
    have oa : nI a + (1 : Int32) = nI (a + 1) := addN a 1
    have om : ∀ m : Nat, nI m + (1 : Int32) = nI (m + 1) := fun m => addN m 1
    have go : ∀ (i : Nat) (y : Int32), evL v P (y :: st2.tail) = some [x] → st2.tail.length = i → i < 40 → Pile (I 73) st2.tail → ∃ I', fx (fun _ _ _ _ => none) bd_43_3 n (nI d) (nI (i + 1)) (nI (a + 1)) (up I 73 i y) = some (x, I') ∧ Fr [73] I I' := fun i y h1 h2 h3 h4 => by
      obtain ⟨I', t1, t2⟩ := rulec hd hen P (y :: st2.tail) x (a + 1) n (up I 73 i y) (by omega) (by omega) (by rw [up_ne (by decide)]; exact h69) (by rw [up_ne (by decide)]; exact r2) (by rw [up_va, ← h2]; exact h4.push y) (by rw [List.length_cons]; omega) (fun j hj => by rw [up_ne (by decide)]; exact hv j hj) h1
      rw [List.length_cons, h2] at t1
      exact ⟨I', t1, ((Fr.refl _ _).up (by decide)).trans t2⟩
    unfold ev1 at e1
    by_cases w0 : ¬ c < 0
    · rw [if_pos w0] at e1
      by_cases w1 : st.length < 40
      · rw [if_pos w1] at e1
        cases e1
        obtain ⟨I', t1, t2⟩ := go st.length c e2 rfl w1 hp
        refine ⟨I', ?_, t2⟩
        rw [fx_s, bd_43_3, a69, if_pos lt, a68, if_neg w0]
        dsimp only
        rw [puN (by omega) (by decide), lb_43_9, om, oa]
        exact t1
      · rw [if_neg w1] at e1
        cases e1
    · have w0' : c < 0 := Decidable.not_not.mp w0
      rw [if_neg w0] at e1
      by_cases w1 : ¬ c < -6
      · rw [if_pos w1] at e1
        by_cases w2 : st.length < 40
        · rw [if_pos w2] at e1
          cases e1
          obtain ⟨I', t1, t2⟩ := go st.length (v c) e2 rfl w2 hp
          refine ⟨I', ?_, t2⟩
          have a72 : atf (I 72) 6 (((-1) : Int32) - c) = v c := by
            have n15 : ¬ c < -15 := fun q => w1 (Int32.lt_trans q (by decide))
            have fin : ∀ j, j < 6 → c = -1 - nI j → ((-1) : Int32) - c = nI j → atf (I 72) 6 (((-1) : Int32) - c) = v c := fun j hj e1 e2 => by
              rw [e2, atN hj (by decide), hv j hj, ← e1]
            rcases neg_cases w0' n15 with q | q | q | q | q | q | q | q | q | q | q | q | q | q | q
            · exact fin 0 (by decide) (by rw [q]; rfl) (by rw [q]; rfl)
            · exact fin 1 (by decide) (by rw [q]; rfl) (by rw [q]; rfl)
            · exact fin 2 (by decide) (by rw [q]; rfl) (by rw [q]; rfl)
            · exact fin 3 (by decide) (by rw [q]; rfl) (by rw [q]; rfl)
            · exact fin 4 (by decide) (by rw [q]; rfl) (by rw [q]; rfl)
            · exact fin 5 (by decide) (by rw [q]; rfl) (by rw [q]; rfl)
            all_goals exact absurd (by rw [q]; decide) w1
          rw [fx_s, bd_43_3, a69, if_pos lt, a68, if_pos w0', if_neg (show ¬ c < ((-6) : Int32) from w1), a72]
          dsimp only
          rw [puN (by omega) (by decide), lb_43_9, om, oa]
          exact t1
        · rw [if_neg w2] at e1
          cases e1
      · have w1' : c < ((-6) : Int32) := Decidable.not_not.mp w1
        rw [if_neg w1] at e1
        by_cases w9 : c = -9
        · rw [if_pos w9] at e1
          match st, e1, hp, hl with
          | y :: st, e1, hp, hl =>
            cases e1
            obtain ⟨p1, p2⟩ := hp.top
            rw [List.length_cons] at hl
            obtain ⟨I', t1, t2⟩ := go st.length (if y = 0 then 1 else 0) e2 rfl (by omega) p2
            refine ⟨I', ?_, t2⟩
            have sb : nI (st.length + 1) - (1 : Int32) = nI st.length := subN (a := st.length + 1) (b := 1) (by omega)
            have a73 : atf (I 73) 50 (nI st.length) = y := by rw [atN (by omega) (by decide)]; exact p1
            rw [List.length_cons, fx_s, bd_43_3, a69, if_pos lt, a68, if_pos w0', if_pos w1', if_pos (show c = ((-9) : Int32) from w9), sb, a73]
            by_cases y0 : y = 0
            · rw [if_pos y0, lb_43_7, show f_45 (1 : Int32) = some 1 from rfl, Option.bind_some]
              dsimp only
              rw [puN (by omega) (by decide), lb_43_9, oa]
              rw [if_pos y0] at t1
              exact t1
            · rw [if_neg y0, lb_43_7, show f_45 (0 : Int32) = some 0 from rfl, Option.bind_some]
              dsimp only
              rw [puN (by omega) (by decide), lb_43_9, oa]
              rw [if_neg y0] at t1
              exact t1
        · rw [if_neg w9] at e1
          by_cases w15 : ¬ c < -15
          · rw [if_pos w15] at e1
            match st, e1, hp, hl with
            | y :: z :: st, e1, hp, hl =>
              cases e1
              obtain ⟨p1, p2⟩ := hp.top
              obtain ⟨p3, p4⟩ := p2.top
              rw [List.length_cons, List.length_cons] at hl
              rw [List.length_cons] at p1
              obtain ⟨I', t1, t2⟩ := go st.length (jn c z y) e2 rfl (by omega) p4
              refine ⟨I', ?_, t2⟩
              have s1 : nI (st.length + 1 + 1) + ((-1) : Int32) = nI (st.length + 1) := m1N (a := st.length + 1 + 1) (by omega)
              have s2 : nI (st.length + 1) - (1 : Int32) = nI st.length := subN (a := st.length + 1) (b := 1) (by omega)
              have a73 : atf (I 73) 50 (nI (st.length + 1)) = y := by rw [atN (by omega) (by decide)]; exact p1
              have b73 : atf (I 73) 50 (nI st.length) = z := by rw [atN (by omega) (by decide)]; exact p3
              have bin : c = -7 ∨ c = -8 ∨ c = -10 ∨ c = -11 ∨ c = -12 ∨ c = -13 ∨ c = -14 ∨ c = -15 := by
                rcases neg_cases w0' w15 with q | q | q | q | q | q | q | q | q | q | q | q | q | q | q
                · exact absurd w1' (by rw [q]; decide)
                · exact absurd w1' (by rw [q]; decide)
                · exact absurd w1' (by rw [q]; decide)
                · exact absurd w1' (by rw [q]; decide)
                · exact absurd w1' (by rw [q]; decide)
                · exact absurd w1' (by rw [q]; decide)
                · exact Or.inl q
                · exact Or.inr (Or.inl q)
                · exact absurd q w9
                · exact Or.inr (Or.inr (Or.inl q))
                · exact Or.inr (Or.inr (Or.inr (Or.inl q)))
                · exact Or.inr (Or.inr (Or.inr (Or.inr (Or.inl q))))
                · exact Or.inr (Or.inr (Or.inr (Or.inr (Or.inr (Or.inl q)))))
                · exact Or.inr (Or.inr (Or.inr (Or.inr (Or.inr (Or.inr (Or.inl q))))))
                · exact Or.inr (Or.inr (Or.inr (Or.inr (Or.inr (Or.inr (Or.inr q))))))
              rw [List.length_cons, List.length_cons, fx_s, bd_43_3, a69, if_pos lt, a68, if_pos w0', if_pos w1', if_neg (show ¬ c = ((-9) : Int32) from w9), s1, s2, a73, b73, f44_s c z y bin, Option.bind_some]
              dsimp only
              rw [puN (by omega) (by decide), lb_43_9, oa]
              exact t1
          · rw [if_neg w15] at e1
            cases e1
theorem f43_s {v : Int32 → Int32} {d en a : Nat} {P : List Int32} {x : Int32} {I : Nat → Nat → Int32} (hd : d < 8) (hen : en ≤ 500) (ha : a + P.length = en) (h69 : I 69 d = nI en) (hst : (d = 0 → a = 0) ∧ (0 < d → I 69 (d - 1) = nI a)) (hr : Row (I 68) a P) (hv : ∀ j, j < 6 → I 72 j = v (-1 - nI j)) (he : evL v P [] = some [x]) : ∃ I', f_43 (nI d) I = some (x, I') ∧ Fr [73] I I' := by
  obtain ⟨I', t1, t2⟩ := rulec hd hen P [] x a FU I (FU_big (by omega)) ha h69 hr (fun i hi => absurd hi (Nat.not_lt_zero i)) (Nat.zero_le _) hv he
  refine ⟨I', ?_, t2⟩
  have e : f_43 (nI d) I = fx (fun _ _ _ _ => none) bd_43_3 FU (nI d) (nI 0) (nI a) I := by
    by_cases q : 0 < d
    · have s1 : nI d - (1 : Int32) = nI (d - 1) := subN (b := 1) (by omega)
      have p : (0 : Int32) < nI d := (ltN (a := 0) (by decide) (by omega)).mpr q
      rw [f_43, if_pos p, s1, atN (by omega) (by decide), hst.2 q]
      rfl
    · have d0 : d = 0 := by omega
      rw [hst.1 d0, d0, f_43, if_neg (show ¬ (0 : Int32) < nI 0 by decide)]
      rfl
  rw [e]
  exact t1
