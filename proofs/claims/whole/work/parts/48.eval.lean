/-! The model works a rule -/
/-- a pile, its bottom first, in places of a row -/
def Pile (f : Nat → Int32) (st : List Int32) : Prop := Row f 0 st.reverse
theorem Row.app {f : Nat → Int32} {a : Nat} {L M : List Int32} (h : Row f a (L ++ M)) : Row f a L ∧ Row f (a + L.length) M := by
  constructor
  · intro i hi
    rw [h i (by rw [List.length_append]; omega), List.getD_eq_getElem?_getD, List.getD_eq_getElem?_getD, List.getElem?_append_left hi]
  · intro i hi
    have := h (L.length + i) (by rw [List.length_append]; omega)
    rw [← Nat.add_assoc] at this
    rw [this, List.getD_eq_getElem?_getD, List.getD_eq_getElem?_getD, List.getElem?_append_right (by omega)]
    congr 2
    congr 1
    omega
theorem Row.mk {f : Nat → Int32} {a : Nat} {L : List Int32} {x : Int32} (h : Row f a L) (hx : f (a + L.length) = x) : Row f a (L ++ [x]) := by
  intro i hi
  rw [List.length_append, List.length_singleton] at hi
  by_cases e : i = L.length
  · rw [e, hx, List.getD_eq_getElem?_getD, List.getElem?_append_right (Nat.le_refl _), Nat.sub_self]
    rfl
  · rw [h i (by omega), List.getD_eq_getElem?_getD, List.getD_eq_getElem?_getD, List.getElem?_append_left (by omega)]
theorem Row.ext {f g : Nat → Int32} {a : Nat} {L : List Int32} (h : Row f a L) (e : ∀ i, i < L.length → g (a + i) = f (a + i)) : Row g a L := fun i hi => (e i hi).trans (h i hi)
theorem Pile.push {f : Nat → Int32} {st : List Int32} (h : Pile f st) (x : Int32) : Pile (va_up f st.length x) (x :: st) := by
  unfold Pile
  rw [List.reverse_cons]
  refine Row.mk (Row.ext h fun i hi => ?_) ?_
  · rw [List.length_reverse] at hi
    rw [va_up_ne]
    omega
  · rw [List.length_reverse, Nat.zero_add, va_up_self]
theorem Pile.top {f : Nat → Int32} {st : List Int32} {x : Int32} (h : Pile f (x :: st)) : f st.length = x ∧ Pile f st := by
  unfold Pile at h
  rw [List.reverse_cons] at h
  obtain ⟨h1, h2⟩ := Row.app h
  refine ⟨?_, h1⟩
  have := h2 0 (by rw [List.length_singleton]; omega)
  rw [List.length_reverse, Nat.zero_add, Nat.add_zero] at this
  rw [this]
  rfl
theorem up_va {I : Nat → Nat → Int32} {a k : Nat} {v : Int32} : up I a k v a = va_up (I a) k v := by
  unfold up ex_set
  rw [if_pos rfl]
theorem encL_app (P Q : List Int32) : encL (P ++ Q) = encL P ++ encL Q := by
  induction P with
  | nil => rfl
  | cons c P ih => rw [List.cons_append, encL, encL, ih, List.append_assoc]
/-- small negative codes -/
theorem neg_cases {c : Int32} (h0 : c < 0) (h1 : ¬ c < -15) : c = -1 ∨ c = -2 ∨ c = -3 ∨ c = -4 ∨ c = -5 ∨ c = -6 ∨ c = -7 ∨ c = -8 ∨ c = -9 ∨ c = -10 ∨ c = -11 ∨ c = -12 ∨ c = -13 ∨ c = -14 ∨ c = -15 := by
  rw [Int32.lt_iff_toInt_lt] at h0 h1
  have z0 : (0 : Int32).toInt = 0 := rfl
  have z1 : (-15 : Int32).toInt = -15 := by decide
  rw [z0] at h0
  rw [z1] at h1
  have : c.toInt = -1 ∨ c.toInt = -2 ∨ c.toInt = -3 ∨ c.toInt = -4 ∨ c.toInt = -5 ∨ c.toInt = -6 ∨ c.toInt = -7 ∨ c.toInt = -8 ∨ c.toInt = -9 ∨ c.toInt = -10 ∨ c.toInt = -11 ∨ c.toInt = -12 ∨ c.toInt = -13 ∨ c.toInt = -14 ∨ c.toInt = -15 := by omega
  have e : ∀ {z : Int} (y : Int32), y.toInt = z → c.toInt = z → c = y := fun y h1 h2 => Int32.toInt_inj.mp (h2.trans h1.symm)
  rcases this with h | h | h | h | h | h | h | h | h | h | h | h | h | h | h
  · exact Or.inl (e (-1) (by decide) h)
  · exact Or.inr (Or.inl (e (-2) (by decide) h))
  · exact Or.inr (Or.inr (Or.inl (e (-3) (by decide) h)))
  · exact Or.inr (Or.inr (Or.inr (Or.inl (e (-4) (by decide) h))))
  · exact Or.inr (Or.inr (Or.inr (Or.inr (Or.inl (e (-5) (by decide) h)))))
  · exact Or.inr (Or.inr (Or.inr (Or.inr (Or.inr (Or.inl (e (-6) (by decide) h))))))
  · exact Or.inr (Or.inr (Or.inr (Or.inr (Or.inr (Or.inr (Or.inl (e (-7) (by decide) h)))))))
  · exact Or.inr (Or.inr (Or.inr (Or.inr (Or.inr (Or.inr (Or.inr (Or.inl (e (-8) (by decide) h))))))))
  · exact Or.inr (Or.inr (Or.inr (Or.inr (Or.inr (Or.inr (Or.inr (Or.inr (Or.inl (e (-9) (by decide) h)))))))))
  · exact Or.inr (Or.inr (Or.inr (Or.inr (Or.inr (Or.inr (Or.inr (Or.inr (Or.inr (Or.inl (e (-10) (by decide) h))))))))))
  · exact Or.inr (Or.inr (Or.inr (Or.inr (Or.inr (Or.inr (Or.inr (Or.inr (Or.inr (Or.inr (Or.inl (e (-11) (by decide) h)))))))))))
  · exact Or.inr (Or.inr (Or.inr (Or.inr (Or.inr (Or.inr (Or.inr (Or.inr (Or.inr (Or.inr (Or.inr (Or.inl (e (-12) (by decide) h))))))))))))
  · exact Or.inr (Or.inr (Or.inr (Or.inr (Or.inr (Or.inr (Or.inr (Or.inr (Or.inr (Or.inr (Or.inr (Or.inr (Or.inl (e (-13) (by decide) h)))))))))))))
  · exact Or.inr (Or.inr (Or.inr (Or.inr (Or.inr (Or.inr (Or.inr (Or.inr (Or.inr (Or.inr (Or.inr (Or.inr (Or.inr (Or.inl (e (-14) (by decide) h))))))))))))))
  · exact Or.inr (Or.inr (Or.inr (Or.inr (Or.inr (Or.inr (Or.inr (Or.inr (Or.inr (Or.inr (Or.inr (Or.inr (Or.inr (Or.inr (e (-15) (by decide) h))))))))))))))
/-- the model's joining is ours -/
theorem f171_s (a b : Int32) : (f_171 5 a b = some (jn (-7) a b)) ∧ (f_171 4 a b = some (jn (-8) a b)) ∧ (f_171 6 a b = some (jn (-10) a b)) ∧ (f_171 7 a b = some (jn (-11) a b)) ∧ (f_171 8 a b = some (jn (-12) a b)) ∧ (f_171 9 a b = some (jn (-13) a b)) ∧ (f_171 10 a b = some (jn (-14) a b)) ∧ (f_171 11 a b = some (jn (-15) a b)) := by
  refine ⟨?_, ?_, ?_, ?_, rfl, rfl, rfl, ?_⟩
  · show (if a = 0 then (if b = 0 then some (0 : Int32) else some 1) else some 1) = some (if a = 0 ∧ b = 0 then 0 else 1)
    by_cases h1 : a = 0
    · by_cases h2 : b = 0
      · rw [if_pos h1, if_pos h2, if_pos ⟨h1, h2⟩]
      · rw [if_pos h1, if_neg h2, if_neg (fun h => h2 h.2)]
    · rw [if_neg h1, if_neg (fun h => h1 h.1)]
  · show (if a = 0 then some (0 : Int32) else (if b = 0 then some 0 else some 1)) = some (if a = 0 ∨ b = 0 then 0 else 1)
    by_cases h1 : a = 0
    · rw [if_pos h1, if_pos (Or.inl h1)]
    · by_cases h2 : b = 0
      · rw [if_neg h1, if_pos h2, if_pos (Or.inr h2)]
      · rw [if_neg h1, if_neg h2, if_neg (fun h => h.elim h1 h2)]
  · show (if a < b then some (1 : Int32) else some 0) = some (if a < b then 1 else 0)
    split <;> rfl
  · show (if a = b then some (1 : Int32) else some 0) = some (if a = b then 1 else 0)
    split <;> rfl
  · show (if b = 0 then some (0 : Int32) else if b = 0 then none else some (a / b)) = some (if b = 0 then 0 else a / b)
    by_cases h : b = 0
    · rw [if_pos h, if_pos h]
    · rw [if_neg h, if_neg h, if_neg h]
theorem st_push {n m a : Nat} {x1 x2 v : Int32} {I : Nat → Nat → Int32} (hm : m < 650) (ha : a + 1 < 1300) (h1 : I 101 a = nI 1) (h2 : I 101 (a + 1) = v) : fx (fun _ _ _ _ _ => none) bd_172_2 (n + 1) x1 x2 (nI m) (nI a) I = fx (fun _ _ _ _ _ => none) bd_172_2 n x1 x2 (nI (m + 1)) (nI (a + 2)) (up I 115 m v) := by
  have ha' : a < 1300 := by omega
  rw [fx_s, bd_172_2]
  unfold lb_172_3 lb_172_10 lb_172_15
  simp (disch := omega) only [lits, inN, clN, eqN, addN, h1, h2, ha, ha', hm, Nat.reduceEqDiff, if_true, if_false]
theorem st_val {n m a j : Nat} {x1 v : Int32} {x2 : Nat} {I : Nat → Nat → Int32} (hm : m < 650) (ha : a + 1 < 1300) (hx2 : x2 < 6) (h1 : I 101 a = nI 2) (h2 : I 101 (a + 1) = nI j) (hv : v = if j = 0 then x1 else if j = 1 then I 97 5 else if j = 2 then I 97 2 else if j = 3 then I 97 1 else if j = 4 then nI x2 else I 112 x2) (hj : j < 6) : fx (fun _ _ _ _ _ => none) bd_172_2 (n + 1) x1 (nI x2) (nI m) (nI a) I = fx (fun _ _ _ _ _ => none) bd_172_2 n x1 (nI x2) (nI (m + 1)) (nI (a + 2)) (up I 115 m v) := by
  have ha' : a < 1300 := by omega
  rw [fx_s, bd_172_2]
  unfold lb_172_3 lb_172_10 lb_172_15
  simp (disch := omega) only [lits, inN, clN, eqN, addN, h1, h2, ha, ha', hm, hx2, Nat.reduceEqDiff, if_true, if_false]
  have : j = 0 ∨ j = 1 ∨ j = 2 ∨ j = 3 ∨ j = 4 ∨ j = 5 := by omega
  rcases this with rfl | rfl | rfl | rfl | rfl | rfl <;> simp only [hv, Nat.reduceEqDiff, if_true, if_false]
theorem st_not {n m a : Nat} {x1 x2 v : Int32} {I : Nat → Nat → Int32} (hm : m < 650) (ha : a < 1300) (h1 : I 101 a = nI 3) (h2 : I 115 m = v) : fx (fun _ _ _ _ _ => none) bd_172_2 (n + 1) x1 x2 (nI (m + 1)) (nI a) I = fx (fun _ _ _ _ _ => none) bd_172_2 n x1 x2 (nI (m + 1)) (nI (a + 1)) (up I 115 m (if v = 0 then 1 else 0)) := by
  rw [fx_s, bd_172_2]
  unfold lb_172_13 lb_172_15
  simp (disch := omega) only [lits, inN, clN, eqN, addN, subN, Nat.add_sub_cancel, h1, h2, ha, hm, Nat.reduceEqDiff, if_true, if_false]
  split <;> rfl
theorem st_join {n m a t : Nat} {x1 x2 u v r : Int32} {I : Nat → Nat → Int32} (hm : m + 1 < 650) (ha : a < 1300) (ht : 4 ≤ t) (ht2 : t < 12) (h1 : I 101 a = nI t) (h2 : I 115 m = u) (h3 : I 115 (m + 1) = v) (hr : f_171 (nI t) u v = some r) : fx (fun _ _ _ _ _ => none) bd_172_2 (n + 1) x1 x2 (nI (m + 2)) (nI a) I = fx (fun _ _ _ _ _ => none) bd_172_2 n x1 x2 (nI (m + 1)) (nI (a + 1)) (up I 115 m r) := by
  have hm' : m < 650 := by omega
  have e1 : nI (m + 2) + (-nI 1) = nI (m + 1) := by rw [m1N (by omega)]; rfl
  have t0 : ¬ t = 0 := by omega
  have t1 : ¬ t = 1 := by omega
  have t2 : ¬ t = 2 := by omega
  have t3 : ¬ t = 3 := by omega
  rw [fx_s, bd_172_2]
  unfold lb_172_15
  simp (disch := omega) only [lits, e1, inN, clN, eqN, addN, subN, Nat.add_sub_cancel, h1, h2, h3, hr, ha, hm, hm', t0, t1, t2, t3, if_true, if_false, Option.bind_some]
/-- one code of a rule: the model's step -/
theorem rule_in {C H w k d h : Nat} (hc : CH C H) (hh : h < H) (hd : d < 8) : ∀ (P : List Int32) (st : List Int32) (x : Int32) (a n : Nat) (I : Nat → Nat → Int32), P.length < n → a + (encL P).length < 1300 → Row (I 101) a (encL P ++ [0]) → Pile (I 115) st → st.length ≤ 40 → (I 97 1 = nI C ∧ I 97 2 = nI H ∧ I 97 5 = nI w) → I 112 h = nI (ct C H k C h) → evL (env d w H C h (ct C H k C h)) P st = some [x] → ∃ I', fx (fun _ _ _ _ _ => none) bd_172_2 n (nI d) (nI h) (nI st.length) (nI a) I = some (if (x - x / nI H * nI H) < 0 then (x - x / nI H * nI H) + nI H else (x - x / nI H * nI H), I') ∧ Fr [115] I I'
  | _, _, _, _, 0, _, hn, _, _, _, _, _, _, _ => absurd hn (Nat.not_lt_zero _)
  | [], st, x, a, n + 1, I, _, ha, hr, hp, _, hm, hs, he => by
    obtain ⟨q1, q2, q3, q4⟩ := hc
    have ha' : a < 1300 := by omega
    rw [evL] at he
    cases he
    have r0 : I 101 a = 0 := (Row.cons (L := []) hr).1
    have p0 : I 115 0 = x := (Pile.top hp).1
    refine ⟨I, ?_, Fr.refl _ _⟩
    rw [fx_s, bd_172_2]
    have z : ¬ nI H = 0 := by
      show ¬ nI H = nI 0
      rw [eqN (by omega) (by omega)]
      omega
    have c0 : ((0 : Int32)).toNatClampNeg = 0 := rfl
    have i0 : ex_in (0 : Int32) 650 := ⟨by decide, by decide⟩
    unfold lb_172_18
    have r0' : I 101 (nI a).toNatClampNeg = 0 := by rw [clN (by omega)]; exact r0
    have z' : ¬ I 97 2 = 0 := by rw [hm.2.1]; exact z
    rw [if_pos ((inN (by omega)).mpr ha'), if_pos r0', if_pos i0, if_neg z', c0, p0, hm.2.1]
    split <;> rfl
  | c :: P, st, x, a, n + 1, I, hn, ha, hr, hp, hl, hm, hs, he => by
    have hC := hc
    obtain ⟨q1, q2, q3, q4⟩ := hc
    rw [List.length_cons] at hn
    rw [evL] at he
    rw [encL, List.append_assoc] at hr
    rw [encL, List.length_append] at ha
    have hs2 := ct_le C H k h C
    obtain ⟨st2, e1, e2⟩ : ∃ st2, ev1 (env d w H C h (ct C H k C h)) c st = some st2 ∧ evL (env d w H C h (ct C H k C h)) P st2 = some [x] := by
      cases q : ev1 (env d w H C h (ct C H k C h)) c st with
      | none => rw [q] at he; cases he
      | some st2 => rw [q] at he; exact ⟨st2, rfl, he⟩
    unfold ev1 at e1
    by_cases w0 : ¬ c < 0
    · rw [if_pos w0] at e1
      have ee : enc c = [1, c] := if_pos w0
      rw [ee] at hr ha
      have r1 := Row.cons hr
      have r2 := Row.cons r1.2
      by_cases w1 : st.length < 40
      · rw [if_pos w1] at e1
        cases e1
        obtain ⟨I', t1, t2⟩ := rule_in hC hh hd P (c :: st) x (a + 2) n (up I 115 st.length c) (by omega) (by rw [List.length_cons, List.length_singleton] at ha; omega) (by rw [up_ne (by decide)]; exact r2.2) (by rw [up_va]; exact hp.push c) (by rw [List.length_cons]; omega) (by rw [up_ne (by decide)]; exact hm) (by rw [up_ne (by decide)]; exact hs) e2
        refine ⟨I', ?_, ((Fr.refl _ _).up (by decide)).trans t2⟩
        rw [← t1, st_push (by omega) (by rw [List.length_cons, List.length_singleton] at ha; omega) r1.1 r2.1]
        rfl
      · rw [if_neg w1] at e1
        cases e1
    · rw [if_neg w0] at e1
      by_cases w1 : ¬ c < -6
      · rw [if_pos w1] at e1
        have ee : enc c = [2, -1 - c] := by
          unfold enc
          rw [if_neg w0, if_pos w1]
        rw [ee] at hr ha
        have r1 := Row.cons hr
        have r2 := Row.cons r1.2
        by_cases w2 : st.length < 40
        · rw [if_pos w2] at e1
          cases e1
          obtain ⟨I', t1, t2⟩ := rule_in hC hh hd P (env d w H C h (ct C H k C h) c :: st) x (a + 2) n (up I 115 st.length (env d w H C h (ct C H k C h) c)) (by omega) (by rw [List.length_cons, List.length_singleton] at ha; omega) (by rw [up_ne (by decide)]; exact r2.2) (by rw [up_va]; exact hp.push _) (by rw [List.length_cons]; omega) (by rw [up_ne (by decide)]; exact hm) (by rw [up_ne (by decide)]; exact hs) e2
          refine ⟨I', ?_, ((Fr.refl _ _).up (by decide)).trans t2⟩
          rw [← t1]
          have hcs : c = -1 ∨ c = -2 ∨ c = -3 ∨ c = -4 ∨ c = -5 ∨ c = -6 := by
            have n15 : ¬ c < -15 := fun q => w1 (Int32.lt_trans q (by decide))
            rcases neg_cases (Decidable.not_not.mp w0) n15 with q | q | q | q | q | q | q | q | q | q | q | q | q | q | q
            · exact Or.inl q
            · exact Or.inr (Or.inl q)
            · exact Or.inr (Or.inr (Or.inl q))
            · exact Or.inr (Or.inr (Or.inr (Or.inl q)))
            · exact Or.inr (Or.inr (Or.inr (Or.inr (Or.inl q))))
            · exact Or.inr (Or.inr (Or.inr (Or.inr (Or.inr q))))
            all_goals exact absurd (by rw [q]; decide) w1
          have al : a + 1 < 1300 := by rw [List.length_cons, List.length_singleton] at ha; omega
          have hx : h < 6 := by omega
          obtain ⟨m1, m2, m3⟩ := hm
          rcases hcs with rfl | rfl | rfl | rfl | rfl | rfl
          · exact st_val (j := 0) (by omega) al hx r1.1 r2.1 rfl (by decide)
          · exact st_val (j := 1) (by omega) al hx r1.1 r2.1 m3.symm (by decide)
          · exact st_val (j := 2) (by omega) al hx r1.1 r2.1 m2.symm (by decide)
          · exact st_val (j := 3) (by omega) al hx r1.1 r2.1 m1.symm (by decide)
          · exact st_val (j := 4) (by omega) al hx r1.1 r2.1 rfl (by decide)
          · exact st_val (j := 5) (by omega) al hx r1.1 r2.1 hs.symm (by decide)
        · rw [if_neg w2] at e1
          cases e1
      · rw [if_neg w1] at e1
        have ee : enc c = [opm c] := by
          unfold enc
          rw [if_neg w0, if_neg w1]
        rw [ee] at hr ha
        have r1 := Row.cons hr
        rw [List.length_singleton] at ha
        by_cases w2 : c = -9
        · subst w2
          rw [if_pos rfl] at e1
          cases st with
          | nil => cases e1
          | cons u st =>
            cases e1
            rw [List.length_cons] at hl
            obtain ⟨p1, p2⟩ := Pile.top hp
            obtain ⟨I', t1, t2⟩ := rule_in hC hh hd P ((if u = 0 then 1 else 0) :: st) x (a + 1) n (up I 115 st.length (if u = 0 then 1 else 0)) (by omega) (by omega) (by rw [up_ne (by decide)]; exact r1.2) (by rw [up_va]; exact p2.push _) (by rw [List.length_cons]; omega) (by rw [up_ne (by decide)]; exact hm) (by rw [up_ne (by decide)]; exact hs) e2
            refine ⟨I', ?_, ((Fr.refl _ _).up (by decide)).trans t2⟩
            rw [← t1]
            exact st_not (by omega) (by omega) r1.1 p1
        · rw [if_neg w2] at e1
          by_cases w3 : ¬ c < -15
          · rw [if_pos w3] at e1
            cases st with
            | nil => cases e1
            | cons v st =>
              cases st with
              | nil => cases e1
              | cons u st =>
                cases e1
                rw [List.length_cons, List.length_cons] at hl
                obtain ⟨p1, p2⟩ := Pile.top hp
                obtain ⟨p3, p4⟩ := Pile.top p2
                rw [List.length_cons] at p1
                obtain ⟨I', t1, t2⟩ := rule_in hC hh hd P (jn c u v :: st) x (a + 1) n (up I 115 st.length (jn c u v)) (by omega) (by omega) (by rw [up_ne (by decide)]; exact r1.2) (by rw [up_va]; exact p4.push _) (by rw [List.length_cons]; omega) (by rw [up_ne (by decide)]; exact hm) (by rw [up_ne (by decide)]; exact hs) e2
                refine ⟨I', ?_, ((Fr.refl _ _).up (by decide)).trans t2⟩
                rw [← t1]
                obtain ⟨g1, g2, g3, g4, g5, g6, g7, g8⟩ := f171_s u v
                rcases neg_cases (Decidable.not_not.mp w0) w3 with q | q | q | q | q | q | q | q | q | q | q | q | q | q | q
                · exact absurd (by rw [q]; decide) w1
                · exact absurd (by rw [q]; decide) w1
                · exact absurd (by rw [q]; decide) w1
                · exact absurd (by rw [q]; decide) w1
                · exact absurd (by rw [q]; decide) w1
                · exact absurd (by rw [q]; decide) w1
                · subst q; exact st_join (t := 5) (by omega) (by omega) (by decide) (by decide) r1.1 p3 p1 g1
                · subst q; exact st_join (t := 4) (by omega) (by omega) (by decide) (by decide) r1.1 p3 p1 g2
                · exact absurd q w2
                · subst q; exact st_join (t := 6) (by omega) (by omega) (by decide) (by decide) r1.1 p3 p1 g3
                · subst q; exact st_join (t := 7) (by omega) (by omega) (by decide) (by decide) r1.1 p3 p1 g4
                · subst q; exact st_join (t := 8) (by omega) (by omega) (by decide) (by decide) r1.1 p3 p1 g5
                · subst q; exact st_join (t := 9) (by omega) (by omega) (by decide) (by decide) r1.1 p3 p1 g6
                · subst q; exact st_join (t := 10) (by omega) (by omega) (by decide) (by decide) r1.1 p3 p1 g7
                · subst q; exact st_join (t := 11) (by omega) (by omega) (by decide) (by decide) r1.1 p3 p1 g8
          · rw [if_neg w3] at e1
            cases e1
