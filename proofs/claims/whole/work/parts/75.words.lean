/-! words, the class's next token -/
theorem wtx_bl : ∀ w, w < 17 → bl (35 + w) = (wtx w).length ∧ (wtx w).length < 6 := by decide
theorem wtx_le : ∀ w, w < 17 → ∀ i, i < (wtx w).length → (wtx w).getD i 0 - 97 < 26 ∧ 97 + ((wtx w).getD i 0 - 97) = (wtx w).getD i 0 := by decide
theorem shr0 : ∀ n, n < 6 → nI n >>> ((0 : Int32) &&& 31) = nI n := by decide
theorem u16 : ∀ k, k < 26 → ((nI (97 + k) &&& (255 : Int32)).toUInt32 % 65536).toInt32 = nI (97 + k) ∧ ((nI (97 + k)).toUInt32 % 65536).toInt32 = nI (97 + k) := by decide
/-- the word that letters are -/
def WR (t : Nat → Nat) (s n W : Nat) : Prop := (W = 17 ∧ ∀ w, w < 17 → ¬ eqw t s n w) ∨ ∃ w, w < 17 ∧ W = 1 + w ∧ eqw t s n w
section TW
variable {t : Nat → Nat} {E s e : Nat} {I : Nat → Nat → Int32}
theorem f214_s {w : Nat} (z : WZ I) (hw : w < 17) : f_214 (18 + w) I = some (nI (wtx w).length) := by
  obtain ⟨z1, _⟩ := z w hw
  obtain ⟨b1, b2⟩ := wtx_bl w hw
  have iS : isS (18 + w) := ⟨by omega, by omega⟩
  have iB : isB (35 + w) := ⟨by omega, by omega⟩
  have g : f_216 (18 + w) I = some 0 := by
    rw [f_216, if_neg (by decide), if_pos iS, z1]
    rfl
  rw [f_214, if_pos iS, show 18 + w + 17 = 35 + w by omega, if_pos iB, if_pos iS, g, Option.bind_some, b1, shr0 _ b2]
theorem f215_s {w i : Nat} (z : WZ I) (hw : w < 17) (hi : i < (wtx w).length) : f_215 (18 + w) (nI i) I = some (nI ((wtx w).getD i 0)) := by
  obtain ⟨z1, z2⟩ := z w hw
  obtain ⟨b1, b2⟩ := wtx_bl w hw
  obtain ⟨l1, l2⟩ := wtx_le w hw i hi
  obtain ⟨u1, u2⟩ := u16 _ l1
  rw [l2] at u1 u2
  have iS : isS (18 + w) := ⟨by omega, by omega⟩
  have iB : isB (35 + w) := ⟨by omega, by omega⟩
  have g : f_217 (18 + w) I = some 1 := by
    rw [f_217, if_neg (by decide), if_pos iS, if_pos z1]
    rfl
  have n0 : ¬ nI i < 0 := negN (by omega)
  have g2 : f_219 (35 + w) (nI i) I = some (nI ((wtx w).getD i 0)) := by
    rw [f_219, if_pos iB, b1, if_pos ⟨n0, (ltN (by omega) (by omega)).mpr hi⟩, if_pos ⟨iB, (inN (by omega)).mpr hi⟩, clN (by omega), z2 i hi, u1, if_pos u2]
  rw [f_215, if_pos iS, g, Option.bind_some, if_neg (by decide), if_pos iS, show 18 + w + 17 = 35 + w by omega, g2, Option.bind_some, if_pos u2]
theorem f76_s {w : Nat} (h : TC t E I) (z : WZ I) (hw : w < 17) (h3 : I 60 3 = nI e) (h4 : I 60 4 = nI s) (hs : s ≤ e) (he : e ≤ E) : ∃ b, f_76 (18 + w) I = some b ∧ ((b = nI 1 ∧ eqw t s (e - s) w) ∨ (b = nI 0 ∧ ¬ eqw t s (e - s) w)) := by
  obtain ⟨b1, b2⟩ := wtx_bl w hw
  have hE := h.1
  have iS : isS (18 + w) := ⟨by omega, by omega⟩
  by_cases q : e - s = (wtx w).length
  · have loop : ∀ (j i m : Nat), i + j = (wtx w).length → j < m → (∀ x, x < i → t (s + x) = (wtx w).getD x 0) → ∃ b, fx (fun _ _ _ => none) bd_76_2 m (18 + w) (nI i) I = some b ∧ ((b = nI 1 ∧ eqw t s (e - s) w) ∨ (b = nI 0 ∧ ¬ eqw t s (e - s) w)) := by
      intro j
      induction j with
      | zero =>
        intro i m ei hm hx
        cases m with
        | zero => omega
        | succ m =>
          obtain rfl : i = (wtx w).length := by omega
          refine ⟨nI 1, ?_, Or.inl ⟨rfl, q, fun x hx' => hx x (by omega)⟩⟩
          rw [fx_s, bd_76_2, if_pos iS, f214_s z hw, Option.bind_some, if_neg (Int32.lt_irrefl (a := nI (wtx w).length))]
          rfl
      | succ j ih =>
        intro i m ei hm hx
        cases m with
        | zero => omega
        | succ m =>
          have hi : i < (wtx w).length := by omega
          have one : nI i + (1 : Int32) = nI (i + 1) := addN i 1
          have tl := (h.2.2 (s + i) (by omega)).1
          obtain ⟨l1, l2⟩ := wtx_le w hw i hi
          have head : fx (fun _ _ _ => none) bd_76_2 (m + 1) (18 + w) (nI i) I = if nI ((wtx w).getD i 0) = nI (t (s + i)) then fx (fun _ _ _ => none) bd_76_2 m (18 + w) (nI (i + 1)) I else some 0 := by
            rw [fx_s, bd_76_2, if_pos iS, f214_s z hw, Option.bind_some, if_pos ((ltN (by omega) (by omega)).mpr hi), if_pos iS, f215_s z hw hi, Option.bind_some, h4, addN, h.at (by omega), Option.bind_some, one]
          rw [head]
          by_cases y : (wtx w).getD i 0 = t (s + i)
          · rw [if_pos (by rw [y])]
            refine ih (i + 1) m (by omega) (by omega) (fun x hx' => ?_)
            by_cases y' : x = i
            · rw [y']; exact y.symm
            · exact hx x (by omega)
          · rw [if_neg (fun v => y ((eqN (by omega) (by omega)).mp v))]
            exact ⟨nI 0, rfl, Or.inr ⟨rfl, fun v => y (v.2 i (by omega)).symm⟩⟩
    obtain ⟨b, a1, a2⟩ := loop (wtx w).length 0 FU (by omega) (FU_big (by omega)) (fun x hx => absurd hx (Nat.not_lt_zero x))
    refine ⟨b, ?_, a2⟩
    rw [f_76, if_pos iS, f214_s z hw, Option.bind_some, h3, h4, subN hs, if_pos (by rw [q])]
    exact a1
  · refine ⟨nI 0, ?_, Or.inr ⟨rfl, fun v => q v.1⟩⟩
    rw [f_76, if_pos iS, f214_s z hw, Option.bind_some, h3, h4, subN hs, if_neg (fun v => q ((eqN (by omega) (by omega)).mp v).symm)]
    rfl
theorem c73_3 (h : TC t E I) (z : WZ I) (h3 : I 60 3 = nI e) (h4 : I 60 4 = nI s) (hs : s < e) (he : e ≤ E) : ∀ (j x m : Nat), x + j = 17 → j + 1 < m → (∀ w, w < x → ¬ eqw t s (e - s) w) → ∃ W, fx (fun _ _ _ => none) bd_73_3 m (nI x) I 17 = some (I, W) ∧ WR t s (e - s) W := by
  intro j
  induction j with
  | zero =>
    intro x m ex hm hx
    cases m with
    | zero => omega
    | succ m =>
      obtain rfl : x = 17 := by omega
      refine ⟨17, ?_, Or.inl ⟨rfl, hx⟩⟩
      rw [fx_s, bd_73_3, if_neg (Int32.lt_irrefl (a := nI 17))]
      rfl
  | succ j ih =>
    intro x m ex hm hx
    cases m with
    | zero => omega
    | succ m =>
      have hx17 : x < 17 := by omega
      have one : nI x + (1 : Int32) = nI (x + 1) := addN x 1
      obtain ⟨b, a1, a2⟩ := f76_s (w := x) h z hx17 h3 h4 (by omega) he
      have inX : ex_in (nI x) 17 := (inN (by omega)).mpr hx17
      have iw : isw (1 + x) := ⟨by omega, by omega⟩
      have cl : (nI x).toNatClampNeg = x := clN (by omega)
      have head : fx (fun _ _ _ => none) bd_73_3 (m + 1) (nI x) I 17 = if b = 0 then fx (fun _ _ _ => none) bd_73_3 m (nI (x + 1)) I 17 else fx (fun _ _ _ => none) bd_73_3 m (nI (x + 1)) I (1 + x) := by
        rw [fx_s, bd_73_3, if_pos ((ltN (by omega) (by decide)).mpr hx17), if_pos (show isw 17 ∧ isw 17 by decide), if_pos rfl, if_pos inX]
        simp only [cl, if_pos iw, show 1 + x + 17 = 18 + x by omega, a1, Option.bind_some, if_pos inX]
        unfold lb_73_4
        rw [one]
      rcases a2 with ⟨rfl, q⟩ | ⟨rfl, q⟩
      · have x16 : x ≠ 16 := fun v => by
          rw [v] at q
          have := q.1
          have l0 : (wtx 16).length = 0 := rfl
          omega
        refine ⟨1 + x, ?_, Or.inr ⟨x, hx17, rfl, q⟩⟩
        rw [head, if_neg (by decide)]
        cases m with
        | zero => omega
        | succ m =>
          have iw2 : isw (1 + x) ∧ isw 17 := ⟨iw, by decide⟩
          by_cases v : x + 1 < 17
          · rw [fx_s, bd_73_3, if_pos ((ltN (by omega) (by decide)).mpr v), if_pos iw2, if_neg (show ¬ 1 + x = 17 by omega)]
            rfl
          · rw [fx_s, bd_73_3, if_neg (fun y => v ((ltN (by omega) (by decide)).mp y))]
            rfl
      · obtain ⟨W, b1, b2⟩ := ih (x + 1) m (by omega) (by omega) (fun w hw => by
          by_cases v : w = x
          · rw [v]; exact q
          · exact hx w (by omega))
        refine ⟨W, ?_, b2⟩
        rw [head, if_pos (by decide)]
        exact b1
/-- a text's next token -/
def Tk (t : Nat → Nat) (E i s e kd v sg W : Nat) : Prop := s = skp isWs t (E - i) i ∧ ((kd = 0 ∧ s = E ∧ e = s ∧ v = 0 ∧ sg = 0 ∧ W = 17) ∨ (kd = 1 ∧ s < E ∧ isLe (t s) ∧ e = skp isLe t (E - s) s ∧ v = 0 ∧ sg = 0 ∧ WR t s (e - s) W) ∨ (kd = 2 ∧ s < E ∧ isDi (t s) ∧ e = skp isDi t (E - s) s ∧ v = dvl t s (min 4 (e - s)) ∧ sg = 0 ∧ W = 17) ∨ (kd = 3 ∧ s < E ∧ ¬ isLe (t s) ∧ ¬ isDi (t s) ∧ e = s + 1 ∧ v = 0 ∧ sg = t s ∧ W = 17))
def CT (s e kd v sg : Nat) (I : Nat → Nat → Int32) : Prop := I 60 3 = nI e ∧ I 60 4 = nI s ∧ I 60 5 = nI kd ∧ I 60 7 = nI v ∧ I 60 8 = nI sg
theorem WZ.u {I' : Nat → Nat → Int32} {ks : List Nat} (z : WZ I) (u : Uk 60 ks I I') : WZ I' := fun w hw => by
  have e1 : I' (18 + w) = I (18 + w) := u.1 _ (by rw [List.mem_singleton]; omega)
  have e2 : I' (35 + w) = I (35 + w) := u.1 _ (by rw [List.mem_singleton]; omega)
  rw [e1, e2]
  exact z w hw
theorem f72_s {i : Nat} (W : Nat) (h : TC t E I) (z : WZ I) (h3 : I 60 3 = nI i) (hi : i ≤ E) : ∃ s e kd v sg W' I', f_72 I W = some (I', W') ∧ Tk t E i s e kd v sg W' ∧ CT s e kd v sg I' ∧ e ≤ E ∧ Uk 60 [3, 4, 5, 7, 8] I I' := by
  have hE := h.1
  obtain ⟨I1, a1, a2, a3⟩ := c72_0 (t := t) (E := E) W (E - i) i FU I (by omega) (FU_big (by omega)) h h3
  obtain ⟨s1, s2⟩ := skp_le (p := isWs) (t := t) (E - i) i
  generalize hs : skp isWs t (E - i) i = s at a2 s1 s2
  have e0 : f_72 I W = lb_72_1 I1 W := a1
  have u0 : Uk 60 [3, 4, 5, 7, 8] I (up (up (up I1 60 4 (nI s)) 60 7 (nI 0)) 60 8 (nI 0)) := (((a3.mono (by decide)).up (by decide)).up (by decide)).up (by decide)
  generalize hI3 : up (up (up I1 60 4 (nI s)) 60 7 (nI 0)) 60 8 (nI 0) = I3 at u0
  have h3' := h.u u0 (by decide)
  have p3 : I3 60 3 = nI s := by rw [← hI3, up_nk (by decide), up_nk (by decide), up_nk (by decide)]; exact a2
  have p4 : I3 60 4 = nI s := by rw [← hI3, up_nk (by decide), up_nk (by decide), up_at]
  have p7 : I3 60 7 = nI 0 := by rw [← hI3, up_nk (by decide), up_at]
  have p8 : I3 60 8 = nI 0 := by rw [← hI3, up_at]
  have e1 : lb_72_1 I1 W = if (I3 60 4) < (I3 60 2) then ((f_77 (I3 60 4) I3).bind fun q4 => ((f_79 q4).bind fun q5 => (if q5 = 0 then ((f_77 (I3 60 4) I3).bind fun q6 => ((f_80 q6).bind fun q7 => (if q7 = 0 then ((f_77 ((up I3 60 5 (3 : Int32)) 60 4) (up I3 60 5 (3 : Int32))).bind fun q9 => (lb_72_5 (up (up (up I3 60 5 (3 : Int32)) 60 8 q9) 60 3 (((up (up I3 60 5 (3 : Int32)) 60 8 q9) 60 3) + (1 : Int32))) 17)) else ((f_74 I3).bind fun q12 => (lb_72_5 q12 17))))) else ((f_73 I3 17).bind fun q13 => (lb_72_5 q13.1 q13.2))))) else (lb_72_5 (up I3 60 5 (0 : Int32)) 17) := by
    rw [← hI3, ← a2]
    rfl
  rw [e0, e1, p4, h3'.2.1]
  by_cases q : s < E
  · have tl := (h3'.2.2 s q).1
    rw [if_pos ((ltN (by omega) (by omega)).mpr q), h3'.at q, Option.bind_some, f79_s tl, Option.bind_some, b01]
    by_cases q1 : isLe (t s)
    · rw [if_pos q1]
      have u1 : Uk 60 [3, 4, 5, 7, 8] I3 (up I3 60 5 (nI 1)) := (Uk.refl _ _ _).up (by decide)
      obtain ⟨I4, b1, b2, b3⟩ := c73_1 (t := t) (E := E) 17 (E - s) s FU (up I3 60 5 (nI 1)) (by omega) (FU_big (by omega)) (h3'.u u1 (by decide)) (by rw [up_nk (by decide)]; exact p3)
      obtain ⟨l1, l2⟩ := skp_le (p := isLe) (t := t) (E - s) s
      have ls : s < skp isLe t (E - s) s := by
        obtain ⟨d, hd⟩ : ∃ d, E - s = d + 1 := ⟨E - s - 1, by omega⟩
        rw [hd, skp, if_pos q1]
        have := (skp_le (p := isLe) (t := t) d (s + 1)).1
        omega
      have u2 := u0.trans (u1.trans (b3.mono (by decide)))
      have r4 : I4 60 4 = nI s := by rw [b3.2 4 (by decide), up_nk (by decide)]; exact p4
      obtain ⟨W', g1, g2⟩ := c73_3 (t := t) (E := E) (s := s) (h.u u2 (by decide)) (z.u u2) b2 r4 ls (by omega) 17 0 FU (by omega) (FU_big (by omega)) (fun w hw => absurd hw (Nat.not_lt_zero w))
      refine ⟨s, skp isLe t (E - s) s, 1, 0, 0, W', I4, ?_, ⟨hs.symm, Or.inr (Or.inl ⟨rfl, q, q1, rfl, rfl, rfl, g2⟩)⟩, ⟨b2, r4, ?_, ?_, ?_⟩, by omega, u2⟩
      · have e73 : f_73 I3 17 = some (I4, W') := by
          have : f_73 I3 17 = lb_73_2 I4 17 := b1
          rw [this]
          exact g1
        rw [e73]
        rfl
      · rw [b3.2 5 (by decide), up_at]
      · rw [b3.2 7 (by decide), up_nk (by decide)]; exact p7
      · rw [b3.2 8 (by decide), up_nk (by decide)]; exact p8
    · rw [if_neg q1, Option.bind_some, f80_s tl, Option.bind_some, b01]
      by_cases q2 : isDi (t s)
      · rw [if_pos q2]
        have u1 : Uk 60 [3, 4, 5, 7, 8] I3 (up I3 60 5 (nI 2)) := (Uk.refl _ _ _).up (by decide)
        obtain ⟨I4, b1, b2, b3, b4⟩ := c74_1 (t := t) (E := E) (s := s) (E - s) s FU (up I3 60 5 (nI 2)) (by omega) (FU_big (by omega)) (Nat.le_refl s) (fun x h1 h2 => by omega) (h3'.u u1 (by decide)) (by rw [up_nk (by decide)]; exact p3) (by rw [up_nk (by decide)]; exact p4) (by rw [up_nk (by decide), Nat.sub_self]; exact p7)
        obtain ⟨l1, l2⟩ := skp_le (p := isDi) (t := t) (E - s) s
        have u2 := u0.trans (u1.trans (b4.mono (by decide)))
        refine ⟨s, skp isDi t (E - s) s, 2, dvl t s (min 4 (skp isDi t (E - s) s - s)), 0, 17, I4, ?_, ⟨hs.symm, Or.inr (Or.inr (Or.inl ⟨rfl, q, q2, rfl, rfl, rfl, rfl⟩))⟩, ⟨b2, ?_, ?_, b3, ?_⟩, by omega, u2⟩
        · have e74 : f_74 I3 = some I4 := b1
          rw [e74]
          rfl
        · rw [b4.2 4 (by decide), up_nk (by decide)]; exact p4
        · rw [b4.2 5 (by decide), up_at]
        · rw [b4.2 8 (by decide), up_nk (by decide)]; exact p8
      · rw [if_neg q2]
        have u1 : Uk 60 [3, 4, 5, 7, 8] I3 (up (up (up I3 60 5 (nI 3)) 60 8 (nI (t s))) 60 3 (nI (s + 1))) := (((Uk.refl _ _ _).up (by decide)).up (by decide)).up (by decide)
        have g : f_77 ((up I3 60 5 (3 : Int32)) 60 4) (up I3 60 5 (3 : Int32)) = some (nI (t s)) := by
          rw [up_nk (by decide), p4]
          exact (h3'.u (ks := [5]) ((Uk.refl _ _ _).up (by decide)) (by decide)).at q
        have one : nI s + (1 : Int32) = nI (s + 1) := addN s 1
        refine ⟨s, s + 1, 3, 0, t s, 17, _, ?_, ⟨hs.symm, Or.inr (Or.inr (Or.inr ⟨rfl, q, q1, q2, rfl, rfl, rfl, rfl⟩))⟩, ⟨up_at, ?_, ?_, ?_, ?_⟩, by omega, u0.trans u1⟩
        · rw [up_nk (by decide), p4] at g
          rw [up_nk (by decide), p4, g, Option.bind_some, up_nk (by decide), up_nk (by decide), p3, one]
          rfl
        · rw [up_nk (by decide), up_nk (by decide), up_nk (by decide)]; exact p4
        · rw [up_nk (by decide), up_nk (by decide), up_at]
        · rw [up_nk (by decide), up_nk (by decide), up_nk (by decide)]; exact p7
        · rw [up_nk (by decide), up_at]
  · have sE : s = E := by omega
    rw [if_neg (fun y => q ((ltN (by omega) (by omega)).mp y))]
    refine ⟨s, s, 0, 0, 0, 17, up I3 60 5 (nI 0), rfl, ⟨hs.symm, Or.inl ⟨rfl, sE, rfl, rfl, rfl, rfl⟩⟩, ⟨?_, ?_, up_at, ?_, ?_⟩, by omega, u0.trans ((Uk.refl _ _ _).up (by decide))⟩
    · rw [up_nk (by decide)]; exact p3
    · rw [up_nk (by decide)]; exact p4
    · rw [up_nk (by decide)]; exact p7
    · rw [up_nk (by decide)]; exact p8
end TW
