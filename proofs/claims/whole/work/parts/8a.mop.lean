/-! the model's steps behind a part: heads -/
def Tok (E s e kd v sg W : Nat) : Prop := s ≤ e ∧ e ≤ E ∧ (kd ≠ 0 → s < e) ∧ sg < 256 ∧ v < 10000 ∧ (1 ≤ W ∧ W ≤ 17) ∧ kd ≤ 3 ∧ (kd ≠ 1 → W = 17) ∧ (kd ≠ 3 → sg = 0)
theorem skp_s {p : Nat → Prop} [DecidablePred p] {t : Nat → Nat} {E s : Nat} (hs : s < E) (q : p (t s)) : s < skp p t (E - s) s := by
  obtain ⟨d, hd⟩ : ∃ d, E - s = d + 1 := ⟨E - s - 1, by omega⟩
  rw [hd, skp, if_pos q]
  have := (skp_le (p := p) (t := t) d (s + 1)).1
  omega
theorem Tk.tok {t : Nat → Nat} {E i s e kd v sg W : Nat} (h : Tk t E i s e kd v sg W) (ht : ∀ x, x < E → t x < 256) (hi : i ≤ E) : Tok E s e kd v sg W ∧ i ≤ s := by
  obtain ⟨hs, h⟩ := h
  obtain ⟨s1, s2⟩ := skp_le (p := isWs) (t := t) (E - i) i
  rw [← hs] at s1 s2
  refine ⟨?_, s1⟩
  rcases h with ⟨rfl, a, rfl, rfl, rfl, rfl⟩ | ⟨rfl, a, b, he, rfl, rfl, w⟩ | ⟨rfl, a, b, he, hv, rfl, rfl⟩ | ⟨rfl, a, b, c, rfl, rfl, rfl, rfl⟩
  · exact ⟨by omega, by omega, fun z => absurd rfl z, by decide, by decide, by decide, by decide, fun _ => rfl, fun _ => rfl⟩
  · have l := skp_s (p := isLe) a b
    have l2 := (skp_le (p := isLe) (t := t) (E - s) s).2
    rw [← he] at l l2
    refine ⟨by omega, by omega, fun _ => l, by decide, by decide, ?_, by decide, fun z => absurd rfl z, fun _ => rfl⟩
    rcases w with w | ⟨w, w1, w2, _⟩
    · omega
    · omega
  · have l := skp_s (p := isDi) a b
    have l2 := (skp_le (p := isDi) (t := t) (E - s) s).2
    have sa := skp_all (p := isDi) (t := t) (E - s) s
    rw [← he] at l l2 sa
    have vl := dvl_lt (t := t) (s := s) (min 4 (e - s)) (fun x hx => sa (s + x) (by omega) (by omega))
    have p4 : 10 ^ (min 4 (e - s)) ≤ 10 ^ 4 := Nat.pow_le_pow_right (by decide) (by omega)
    rw [← hv] at vl
    exact ⟨by omega, by omega, fun _ => l, by decide, by omega, by decide, by decide, fun _ => rfl, fun _ => rfl⟩
  · exact ⟨by omega, by omega, fun _ => by omega, ht s a, by decide, by decide, by decide, fun _ => rfl, fun z => absurd rfl z⟩
theorem mw_op : ∀ W, W ≤ 17 → 1 ≤ W → (mw W = 13 ↔ W = 15) ∧ (mw W = 14 ↔ W = 14) ∧ (mw W = 15 ↔ W = 16) := by decide +kernel
section MP
variable {t : Nat → Nat} {E b0 : Nat} {P : List Int32} {Ws : List Nat} {cmp : Nat → Nat} {s e kd v sg W s' e' kd' v' sg' W' : Nat} {I : Nat → Nat → Int32} {J : Nat → Nat → Int64}
theorem m159_h (c2 : Int32 → (Nat → Nat → Int32) → (Nat → Nat → Int64) → Option ((Nat → Nat → Int32) × (Nat → Nat → Int64))) (h12 : I 97 12 = nI 0) (k : MT s e kd v sg W I J) (tk : Tok E s e kd v sg W) : bd_159_2 c2 (1 : Int32) I J = if W = 15 then lb_159_3 c2 (1 : Int32) (13 : Int32) I J else if W = 14 then lb_159_3 c2 (1 : Int32) (14 : Int32) I J else if sg = 60 then lb_159_9 c2 (1 : Int32) I J else if sg = 61 then lb_159_9 c2 (1 : Int32) I J else lb_159_12 c2 (1 : Int32) I J := by
  obtain ⟨_, _, _, hsg, _, ⟨w1, w2⟩, _, _, hs⟩ := tk
  obtain ⟨e13, e14, _⟩ := mw_op W w2 w1
  have s60 : f_146 (60 : Int32) I = some (nI (if sg = 60 then 1 else 0)) := f146_s (c := 60) k hsg (by decide) hs
  have s61 : f_146 (61 : Int32) I = some (nI (if sg = 61 then 1 else 0)) := f146_s (c := 61) k hsg (by decide) hs
  rw [bd_159_2, if_neg (show ¬ (1 : Int32) = 0 by decide), f145_y h12, Option.bind_some, if_neg (show ¬ nI 1 = 0 by decide), f143_s k, Option.bind_some]
  by_cases q15 : W = 15
  · have e := e13.mpr q15
    rw [if_pos e, if_pos q15, e]
  · rw [if_neg (fun z => q15 (e13.mp z)), if_neg q15]
    by_cases q14 : W = 14
    · have e := e14.mpr q14
      rw [if_pos e, if_pos q14, e]
    · rw [if_neg (fun z => q14 (e14.mp z)), if_neg q14, s60, Option.bind_some, b01, s61, Option.bind_some, b01]
theorem m159_12h (c2 : Int32 → (Nat → Nat → Int32) → (Nat → Nat → Int64) → Option ((Nat → Nat → Int32) × (Nat → Nat → Int64))) (k : MT s e kd v sg W I J) (tk : Tok E s e kd v sg W) : lb_159_12 c2 (1 : Int32) I J = if sg = 43 then lb_159_13 c2 (1 : Int32) I J else if sg = 45 then lb_159_13 c2 (1 : Int32) I J else if sg = 42 then lb_159_17 c2 (1 : Int32) I J else if sg = 47 then lb_159_17 c2 (1 : Int32) I J else if sg = 41 then ((f_157 I).bind fun q33 => (if q33 = 0 then (lb_159_21 c2 I J) else ((f_158 I J).bind fun q34 => (lb_159_22 c2 (1 : Int32) q34.1 q34.2)))) else lb_159_21 c2 I J := by
  obtain ⟨_, _, _, hsg, _, ⟨w1, w2⟩, _, _, hs⟩ := tk
  have s43 : f_146 (43 : Int32) I = some (nI (if sg = 43 then 1 else 0)) := f146_s (c := 43) k hsg (by decide) hs
  have s45 : f_146 (45 : Int32) I = some (nI (if sg = 45 then 1 else 0)) := f146_s (c := 45) k hsg (by decide) hs
  have s42 : f_146 (42 : Int32) I = some (nI (if sg = 42 then 1 else 0)) := f146_s (c := 42) k hsg (by decide) hs
  have s47 : f_146 (47 : Int32) I = some (nI (if sg = 47 then 1 else 0)) := f146_s (c := 47) k hsg (by decide) hs
  have s41 : f_146 (41 : Int32) I = some (nI (if sg = 41 then 1 else 0)) := f146_s (c := 41) k hsg (by decide) hs
  rw [lb_159_12, s43, Option.bind_some, b01, s45, Option.bind_some, b01, s42, Option.bind_some, b01, s47, Option.bind_some, b01, s41, Option.bind_some, b01]
/-- the next token -/
theorem PMd.next (h : PMd b0 P Ws cmp I) (hT : TM t E I) (h16 : I 97 16 = nI e) (he : e ≤ E) (kn : Tk t E e s' e' kd' v' sg' W') : ∃ I' J', f_140 I J = some (I', J') ∧ PMd b0 P Ws cmp I' ∧ MT s' e' kd' v' sg' W' I' J' ∧ Vm (b0 + (encL P).length) I I' ∧ UJ J J' := by
  obtain ⟨I2, J2, b1, b2, b3, b4⟩ := f140_s (J := J) hT h16 he kn
  exact ⟨I2, J2, b1, h.tok b3, b2, b3.v (by decide), b4⟩
/-- whether a bracket stands open -/
theorem f157_w : ∀ (Ws : List Nat) (m : Nat), vld Ws → Ws.length < m → Ws.length ≤ 650 → StkF (fun k => nI (mkk k)) (I 108) Ws → fx (fun _ _ => none) bd_157_1 m (nI Ws.length - (1 : Int32)) I = some (nI (if 0 < dpt Ws then 1 else 0))
  | [], m, _, hm, _, _ => by
    cases m with
    | zero => exact absurd hm (Nat.not_lt_zero _)
    | succ m =>
      rw [fx_s, bd_157_1, if_pos (show nI ([] : List Nat).length - (1 : Int32) < 0 by decide), lb_157_2, if_pos (show nI ([] : List Nat).length - (1 : Int32) < 0 by decide)]
      rfl
  | k :: Ws, m, hv, hm, hl, h4 => by
    cases m with
    | zero => exact absurd hm (Nat.not_lt_zero _)
    | succ m =>
      rw [List.length_cons] at hm hl
      obtain ⟨k7, k17⟩ := hv.head
      obtain ⟨_, _, _, _, g5, _⟩ := ccs k k17 k7
      have sub : nI (Ws.length + 1) - (1 : Int32) = nI Ws.length := subN (a := Ws.length + 1) (b := 1) (by omega)
      have at0 : I 108 Ws.length = nI (mkk k) := h4.1
      have n0 : ¬ nI Ws.length < 0 := negN (by omega)
      have inW : ex_in (nI Ws.length) 650 := (inN (by omega)).mpr (by omega)
      have cl : (nI Ws.length).toNatClampNeg = Ws.length := clN (by omega)
      have at1 : I 108 (nI Ws.length).toNatClampNeg = nI (mkk k) := by rw [cl]; exact at0
      rw [List.length_cons, sub, fx_s, bd_157_1, if_neg n0, if_pos inW, at1, g5, Option.bind_some, b01, dpt]
      by_cases q : k = 16
      · rw [if_pos q, if_pos q, if_pos (by omega), lb_157_2, if_neg n0]
        rfl
      · have ih := f157_w Ws m hv.tail (by omega) (by omega) h4.2
        rw [if_neg q, if_neg q, Nat.add_zero, ← ih, Int32.sub_eq_add_neg]
theorem f157_s (h : PMd b0 P Ws cmp I) (hw : wf Ws) (hd : dpt Ws ≤ 5) : f_157 I = some (nI (if 0 < dpt Ws then 1 else 0)) := by
  obtain ⟨l1, _⟩ := hw.len
  have t := hw.top.1
  have := f157_w (I := I) Ws FU hw.vld (FU_big (by omega)) (by omega) h.1.2.2.2
  rw [← this, ← h.1.2.2.1]
  rfl
theorem prk01 : ∀ k, k < 17 → 7 ≤ k → k ≠ 16 → (prk k < 0 ↔ prk k < 1) := by decide
/-- a bracket closes -/
theorem f158_s (h : PMd b0 P Ws cmp I) (hT : TM t E I) (h16 : I 97 16 = nI e) (hw : wf Ws) (hd : dpt Ws ≤ 5) (hd0 : 0 < dpt Ws) (hb : b0 + (encL P).length + Ws.length ≤ 1300) (he : e ≤ E) (kn : Tk t E e s' e' kd' v' sg' W') : ∃ Vs I' J', (fls 1 Ws).2 = 16 :: Vs ∧ dpt Ws = dpt Vs + 1 ∧ f_158 I J = some (I', J') ∧ PMd b0 (P ++ (fls 1 Ws).1.map cc) Vs cmp I' ∧ MT s' e' kd' v' sg' W' I' J' ∧ Vm (b0 + (encL P).length) I I' ∧ UJ J J' := by
  obtain ⟨Vs, v1, v2⟩ := (fls_close hw).2 hd0
  obtain ⟨l1, _⟩ := hw.len
  have tp := hw.top.1
  have sl : (fls 1 Ws).2.length ≤ Ws.length := by
    have := congrArg List.length (fls_app 1 Ws)
    rw [List.length_append] at this
    omega
  rw [v1, List.length_cons] at sl
  obtain ⟨I1, a1, a2, a3⟩ := mflush h hw hd (p := 1) (q := 0) (by decide) prk01 (by decide) hb
  rw [v1] at a2
  obtain ⟨⟨n1, n2, n3, n4⟩, n5, n6, n7⟩ := a2
  rw [List.length_cons] at n3
  have s1 : nI (Vs.length + 1) - (1 : Int32) = nI Vs.length := subN (a := Vs.length + 1) (b := 1) (by omega)
  have d1 : dpt (16 :: Vs) = dpt Vs + 1 := rfl
  rw [d1] at n5
  have s2 : nI (dpt Vs + 1 + 1) - (1 : Int32) = nI (dpt Vs + 1) := subN (a := dpt Vs + 1 + 1) (b := 1) (by omega)
  have u1 : Vm (b0 + (encL P).length) I (up (up I1 97 30 (nI Vs.length)) 97 31 (nI (dpt Vs + 1))) := by
    have u0 := Um.v a3
    refine ⟨(u0.1.up (by decide)).up (by decide), fun k hk => ?_, fun x hx => ?_, u0.2.2.2.trans (Nf.of (by rw [up_nk (by decide), up_nk (by decide)]) (by rw [up_nk (by decide), up_nk (by decide)]))⟩
    · rw [up_nk (show k ≠ 31 from fun z => hk (by rw [z]; decide)), up_nk (show k ≠ 30 from fun z => hk (by rw [z]; decide))]; exact u0.2.1 k hk
    · rw [up_ne (by decide), up_ne (by decide)]; exact u0.2.2.1 x hx
  have p2 : PMd b0 (P ++ (fls 1 Ws).1.map cc) Vs cmp (up (up I1 97 30 (nI Vs.length)) 97 31 (nI (dpt Vs + 1))) := by
    refine ⟨⟨?_, ?_, ?_, ?_⟩, up_at, fun d hd' => ?_, ?_⟩
    · rw [up_nk (by decide), up_nk (by decide)]; exact n1
    · rw [up_ne (by decide), up_ne (by decide)]; exact n2
    · rw [up_nk (by decide), up_at]
    · rw [up_ne (by decide), up_ne (by decide)]; exact n4.2
    · rw [up_ne (by decide), up_ne (by decide)]; exact n6 d (by omega)
    · rw [up_nk (by decide), up_nk (by decide)]; exact n7
  obtain ⟨I2, J2, b1, b2, b3, b4, b5⟩ := p2.next (J := J) (hT.v u1) (by rw [up_nk (by decide), up_nk (by decide), a3.2.1 16 (by decide) (by decide)]; exact h16) he kn
  refine ⟨Vs, I2, J2, v1, v2, ?_, b2, b3, u1.trans b4 (by rw [encL_app, List.length_append]; omega), b5⟩
  rw [f_158, show f_152 (0 : Int32) I = some I1 from a1, Option.bind_some]
  dsimp only
  rw [n3, s1, up_nk (by decide), n5, s2, b1]
  rfl
end MP
