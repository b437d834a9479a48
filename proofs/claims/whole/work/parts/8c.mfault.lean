/-! the model's end of a rule, its faults -/
theorem encL_cc : ∀ L : List Nat, vld L → (encL (L.map cc)).length = L.length
  | [], _ => rfl
  | k :: L, h => by
    obtain ⟨k7, k17⟩ := h.head
    obtain ⟨_, _, g3, _⟩ := ccs k k17 k7
    rw [List.map_cons, encL, g3, List.length_append, encL_cc L h.tail]
    show 1 + L.length = L.length + 1
    omega
theorem fls_len (p : Nat) (Ws : List Nat) : (fls p Ws).1.length + (fls p Ws).2.length = Ws.length := by
  rw [← List.length_append, fls_app]
theorem fls_vld {p : Nat} {Ws : List Nat} (h : vld Ws) : vld (fls p Ws).1 ∧ vld (fls p Ws).2 := by
  refine ⟨fun k hk => h k ?_, fun k hk => h k ?_⟩
  · rw [← fls_app p Ws]
    exact List.mem_append_left _ hk
  · rw [← fls_app p Ws]
    exact List.mem_append_right _ hk
theorem encL_fls {p : Nat} {P : List Int32} {Ws : List Nat} (h : vld Ws) : (encL (P ++ (fls p Ws).1.map cc)).length + (fls p Ws).2.length = (encL P).length + Ws.length := by
  have := fls_len p Ws
  rw [encL_app, List.length_append, encL_cc _ (fls_vld h).1]
  omega
/-- the model with a fault -/
def MF (r s n : Nat) (Ws : List Nat) (I : Nat → Nat → Int32) : Prop := I 97 12 = nI r ∧ I 97 13 = nI s ∧ I 97 29 = nI n ∧ I 97 30 = nI Ws.length ∧ StkF (fun k => nI (mkk k)) (I 108) Ws
theorem Vm.mono {y z : Nat} {I I' : Nat → Nat → Int32} (h : Vm y I I') (hz : z ≤ y) : Vm z I I' := ⟨h.1, h.2.1, fun x hx => h.2.2.1 x (by omega), h.2.2.2⟩
section MY
variable {t : Nat → Nat} {E b0 : Nat} {P : List Int32} {Ws : List Nat} {cmp : Nat → Nat} {r n s e kd v sg W s' e' kd' v' sg' W' : Nat} {I : Nat → Nat → Int32} {J : Nat → Nat → Int64}
theorem m159_e (c2 : Int32 → (Nat → Nat → Int32) → (Nat → Nat → Int64) → Option ((Nat → Nat → Int32) × (Nat → Nat → Int64))) (h : PMd b0 P Ws cmp I) (hk : MT s e kd v sg W I J) (tk : Tok E s e kd v sg W) (hw : wf Ws) (hd : dpt Ws ≤ 5) (hc2 : cmp (dpt Ws) < 2) (ho : opk W sg = 0 ∨ (opk W sg = 10 ∨ opk W sg = 11) ∧ 0 < cmp (dpt Ws)) (hp : sg = 41 → dpt Ws = 0) : bd_159_2 c2 (1 : Int32) I J = c2 (0 : Int32) I J := by
  have c31 : (nI (dpt Ws + 1)).toNatClampNeg = dpt Ws + 1 := clN (by omega)
  have i31 : ex_in (nI (dpt Ws + 1)) 9 := (inN (by omega)).mpr (by omega)
  unfold opk at ho
  have n14 : ¬ W = 14 := fun z => by
    rw [if_pos z] at ho
    omega
  rw [if_neg n14] at ho
  have n15 : ¬ W = 15 := fun z => by
    rw [if_pos z] at ho
    omega
  rw [if_neg n15] at ho
  rw [m159_h c2 h.2.2.2 hk tk, if_neg n15, if_neg n14]
  have g9 : sg = 60 ∨ sg = 61 → lb_159_9 c2 (1 : Int32) I J = c2 (0 : Int32) I J := fun q => by
    have cp : 0 < cmp (dpt Ws) := by
      rcases ho with ho | ho
      · by_cases q60 : sg = 60
        · rw [if_pos q60] at ho; omega
        · rw [if_neg q60, if_pos (by omega)] at ho; omega
      · exact ho.2
    have at1 : ¬ I 109 (nI (dpt Ws + 1)).toNatClampNeg = 0 := fun z => by
      rw [c31, h.2.2.1 _ (Nat.le_refl _)] at z
      have := (eqN (b := 0) (by omega) (by decide)).mp z
      omega
    rw [lb_159_9, h.2.1, if_pos i31, if_neg at1, m159_12h c2 hk tk, if_neg (by omega), if_neg (by omega), if_neg (by omega), if_neg (by omega), if_neg (by omega)]
    rfl
  by_cases q60 : sg = 60
  · rw [if_pos q60]; exact g9 (Or.inl q60)
  · rw [if_neg q60] at ho ⊢
    by_cases q61 : sg = 61
    · rw [if_pos q61]; exact g9 (Or.inr q61)
    · rw [if_neg q61] at ho ⊢
      rw [m159_12h c2 hk tk]
      by_cases q43 : sg = 43
      · rw [if_pos q43] at ho; omega
      · rw [if_neg q43] at ho ⊢
        by_cases q45 : sg = 45
        · rw [if_pos q45] at ho; omega
        · rw [if_neg q45] at ho ⊢
          by_cases q42 : sg = 42
          · rw [if_pos q42] at ho; omega
          · rw [if_neg q42] at ho ⊢
            by_cases q47 : sg = 47
            · rw [if_pos q47] at ho; omega
            · rw [if_neg q47]
              by_cases q41 : sg = 41
              · rw [if_pos q41, f157_s h hw hd, Option.bind_some, b01, if_neg (by rw [hp q41]; decide)]
                rfl
              · rw [if_neg q41]
                rfl
/-- the end of a rule, none open -/
theorem m159_g (h : PMd b0 P Ws cmp I) (hw : wf Ws) (hd0 : dpt Ws = 0) (hb : b0 + (encL P).length + Ws.length < 1300) : ∃ I', lb_159_23 I J = some (I', J) ∧ I' 97 29 = nI (b0 + (encL (P ++ (fls 1 Ws).1.map cc) ++ [0]).length) ∧ Row (I' 107) b0 (encL (P ++ (fls 1 Ws).1.map cc) ++ [0]) ∧ (∀ x, x ≠ 29 → x ≠ 30 → I' 97 x = I 97 x) ∧ Vm (b0 + (encL P).length) I I' := by
  obtain ⟨I1, a1, a2, a3⟩ := mflush h hw (by omega) (p := 1) (q := 0) (by decide) prk01 (by decide) (by omega)
  have len := encL_fls (p := 1) (P := P) hw.vld
  obtain ⟨I2, b1, b2, b3, b4, b5, b6⟩ := f149_s (n := 0) (I := I1) (0 : Int32) a2.1.1 a2.1.2.1 (by omega)
  refine ⟨I2, ?_, b2, b3, fun x y z => by rw [b5 x y, a3.2.1 x y z], ?_⟩
  · have e31 := h.2.1
    rw [hd0] at e31
    rw [lb_159_23, f145_y h.2.2.2, Option.bind_some, if_neg (show ¬ nI 1 = 0 by decide), e31, if_neg (show ¬ (1 : Int32) < nI (0 + 1) by decide), lb_159_24, show f_152 (0 : Int32) I = some I1 from a1, Option.bind_some, b1, Option.bind_some]
  · refine (Um.v a3).trans (z := b0 + (encL (P ++ (fls 1 Ws).1.map cc)).length) ⟨b4.mono (by decide), fun k hk => b5 k (fun z => hk (by rw [z]; decide)), b6, Nf.of (b5 12 (by decide)) (b5 13 (by decide))⟩ (by rw [encL_app, List.length_append]; omega)
/-- the end of a rule, one open -/
theorem m159_b (h : PMd b0 P Ws cmp I) (h18 : I 97 18 = nI s) (hw : wf Ws) (hd : dpt Ws ≤ 5) (hd0 : 0 < dpt Ws) (hb : b0 + (encL P).length + Ws.length < 1300) : ∃ I', lb_159_23 I J = some (I', J) ∧ I' 97 12 = nI 1 ∧ I' 97 13 = nI s ∧ Vm 0 I I' := by
  obtain ⟨l1, _⟩ := hw.len
  have tp := hw.top.1
  obtain ⟨⟨n1, n2, n3, n4⟩, n5, n6, n7⟩ := h
  obtain ⟨I', a1, a2⟩ := m159_24 (I := up (up I 97 12 (nI 1)) 97 13 (nI s)) (J := J) (n := b0 + (encL P).length) hw.vld (by omega) (by omega) (by rw [up_nk (by decide), up_nk (by decide)]; exact n1) (by rw [up_nk (by decide), up_nk (by decide)]; exact n3) (by rw [up_ne (by decide), up_ne (by decide)]; exact n4)
  have u1 : Uk 97 [12, 13] I (up (up I 97 12 (nI 1)) 97 13 (nI s)) := ((Uk.refl _ _ _).up (by decide)).up (by decide)
  refine ⟨I', ?_, ?_, ?_, (u1.vf (r := 1) (by rw [up_nk (by decide), up_at]) (by decide) (by decide)).trans (Um.v a2) (Nat.zero_le _)⟩
  · have lt : (1 : Int32) < nI (dpt Ws + 1) := (ltN (a := 1) (by decide) (by omega)).mpr (by omega)
    rw [lb_159_23, f145_y n7, Option.bind_some, if_neg (show ¬ nI 1 = 0 by decide), n5, if_pos lt, show f_144 (1 : Int32) I = _ from f144_s (r := 1) n7 h18, Option.bind_some]
    exact a1
  · rw [a2.2.1 12 (by decide) (by decide), up_nk (by decide), up_at]
  · rw [a2.2.1 13 (by decide) (by decide), up_at]
/-- out of the rule with a fault -/
theorem m159_f {m : Nat} (h : MF r s n Ws I) (h0 : 0 < r) (hr : r < 10) (hv : vld Ws) (hl : Ws.length ≤ 650) (hn : n + Ws.length < 1300) : ∃ I', fx (fun _ _ _ => none) bd_159_2 (m + 1) (1 : Int32) I J = some (I', J) ∧ I' 97 12 = nI r ∧ I' 97 13 = nI s ∧ Vm 0 I I' := by
  obtain ⟨h12, h13, h29, h30, h108⟩ := h
  obtain ⟨I', a1, a2⟩ := m159_23 (J := J) h12 h0 hr hv hl hn h29 h30 h108
  refine ⟨I', ?_, by rw [a2.2.1 12 (by decide) (by decide)]; exact h12, by rw [a2.2.1 13 (by decide) (by decide)]; exact h13, (Um.v a2).mono (Nat.zero_le _)⟩
  rw [fx_s, bd_159_2, if_neg (show ¬ (1 : Int32) = 0 by decide), f145_n h12 h0 hr, Option.bind_some, if_pos (show nI 0 = 0 from rfl)]
  exact a1
theorem m156_x {m m2 : Nat} {x2 x4 : Int32} (h12 : I 97 12 = nI r) (h0 : 0 < r) (hr : r < 10) : fx (fun _ _ _ _ => none) (bd_156_2 (fx (fun _ _ _ _ => none) bd_156_1 (m2 + 1))) (m + 1) x2 x4 I J = some (I, J) := by
  have g := f145_n h12 h0 hr
  rw [fx_s, bd_156_2, g, Option.bind_some, if_pos (show nI 0 = 0 from rfl), lb_156_5, g, Option.bind_some, if_pos (show nI 0 = 0 from rfl), lb_156_6, lb_156_7, if_pos rfl, lb_156_8, fx_s, bd_156_1, if_pos rfl, lb_156_9, f_154, g, Option.bind_some, if_pos (show nI 0 = 0 from rfl)]
  rfl
theorem m156_e {m m2 x2 : Nat} {x4 : Int32} (h12 : I 97 12 = nI 0) (hk : MT s e kd v sg W I J) (tk : Tok E s e kd v sg W) (hx : x2 = 0 ∨ W ≠ 16) (hx2 : x2 < 2) (h40 : sg ≠ 40) : fx (fun _ _ _ _ => none) (bd_156_2 (fx (fun _ _ _ _ => none) bd_156_1 (m2 + 1))) (m + 1) (nI x2) x4 I J = f_154 I J := by
  obtain ⟨_, _, _, hsg, _, ⟨w1, w2⟩, _, _, hs⟩ := tk
  obtain ⟨_, _, e16⟩ := mw_op W w2 w1
  have s40 : f_146 (40 : Int32) I = some (nI (if sg = 40 then 1 else 0)) := f146_s (c := 40) hk hsg (by decide) hs
  have g := f145_y h12
  have tl : lb_156_5 (fx (fun _ _ _ _ => none) bd_156_1 (m2 + 1)) (nI x2) I J = f_154 I J := by
    rw [lb_156_5, g, Option.bind_some, if_neg (show ¬ nI 1 = 0 by decide), s40, Option.bind_some, b01, if_neg h40, lb_156_6, lb_156_7, if_pos rfl, lb_156_8, fx_s, bd_156_1, if_pos rfl, lb_156_9]
    cases f_154 I J with
    | none => rfl
    | some q => rfl
  rw [fx_s, bd_156_2, g, Option.bind_some, if_neg (show ¬ nI 1 = 0 by decide)]
  by_cases q : x2 = 0
  · rw [if_pos (by rw [q]; rfl), tl]
  · rw [if_neg (show ¬ nI x2 = 0 from fun z => q ((eqN (b := 0) (by omega) (by decide)).mp z)), f143_s hk, Option.bind_some, if_neg (fun z => (hx.resolve_left q) (e16.mp z)), tl]
theorem PMd.fault (h : PMd b0 P Ws cmp I) (h18 : I 97 18 = nI s) (h0 : 0 < r) (hr : r < 10) : f_144 (nI r) I = some (up (up I 97 12 (nI r)) 97 13 (nI s)) ∧ MF r s (b0 + (encL P).length) Ws (up (up I 97 12 (nI r)) 97 13 (nI s)) ∧ Vm (b0 + (encL P).length) I (up (up I 97 12 (nI r)) 97 13 (nI s)) := by
  have u1 : Uk 97 [12, 13] I (up (up I 97 12 (nI r)) 97 13 (nI s)) := ((Uk.refl _ _ _).up (by decide)).up (by decide)
  obtain ⟨⟨n1, n2, n3, n4⟩, n5, n6, n7⟩ := h
  refine ⟨f144_s n7 h18, ⟨?_, up_at, ?_, ?_, ?_⟩, u1.vf (r := r) (by rw [up_nk (by decide), up_at]) h0 hr⟩
  · rw [up_nk (by decide), up_at]
  · rw [u1.2 29 (by decide)]; exact n1
  · rw [u1.2 30 (by decide)]; exact n3
  · rw [u1.1 108 (by decide)]; exact n4
theorem MF.emit {c : Int32} (h : MF r s n Ws I) (hn : n < 1300) : ∃ I', f_149 c I = some I' ∧ MF r s (n + 1) Ws I' ∧ Vm n I I' ∧ (∀ k, k ≠ 29 → I' 97 k = I 97 k) := by
  obtain ⟨h12, h13, h29, h30, h108⟩ := h
  obtain ⟨I2, b1, b2, b3, b4, b5, b6⟩ := f149_s (n := 0) (I := I) c (L := []) (b0 := n) h29 (fun i hi => absurd hi (Nat.not_lt_zero i)) (show n + 0 < 1300 by omega)
  exact ⟨I2, b1, ⟨by rw [b5 12 (by decide)]; exact h12, by rw [b5 13 (by decide)]; exact h13, b2, by rw [b5 30 (by decide)]; exact h30, by rw [b4 108 (by decide)]; exact h108⟩, ⟨b4.mono (by decide), fun k hk => b5 k (fun z => hk (by rw [z]; decide)), b6, Nf.of (b5 12 (by decide)) (b5 13 (by decide))⟩, b5⟩
/-- a value that is none -/
theorem f154_b (h : PMd b0 P Ws cmp I) (hk : MT s e kd v sg W I J) (tk : Tok E s e kd v sg W) (hE : E ≤ 500) (hr : (kd = 2 ∧ 4 < e - s ∧ r = 2) ∨ (kd = 1 ∧ wcd W = 0 ∧ r = 3) ∨ (kd ≠ 1 ∧ kd ≠ 2 ∧ r = 1)) (hn : b0 + (encL P).length + 2 ≤ 1300) : ∃ I' n', f_154 I J = some (I', J) ∧ MF r s n' Ws I' ∧ n' ≤ b0 + (encL P).length + 2 ∧ Vm 0 I I' := by
  have hk0 := hk
  obtain ⟨k16, k18, k17, k19, k20, _⟩ := hk
  have g := f145_y h.2.2.2
  obtain ⟨_, he, _, hsg, _, ⟨w1, w2⟩, h3, _, hs⟩ := tk
  have r3 : 0 < r ∧ r < 10 := by
    rcases hr with ⟨_, _, z⟩ | ⟨_, _, z⟩ | ⟨_, _, z⟩ <;> rw [z] <;> decide
  obtain ⟨f1, f2, f3⟩ := h.fault (r := r) k18 r3.1 r3.2
  have fin : ∀ x y : Int32, ∃ I' n', ((f_149 x (up (up I 97 12 (nI r)) 97 13 (nI s))).bind fun q => (f_149 y q).bind fun q2 => lb_154_7 q2 J) = some (I', J) ∧ MF r s n' Ws I' ∧ n' ≤ b0 + (encL P).length + 2 ∧ Vm 0 I I' := fun x y => by
    obtain ⟨I1, a1, a2, a3, _⟩ := f2.emit (c := x) (by omega)
    obtain ⟨I2, b1, b2, b3, _⟩ := a2.emit (c := y) (by omega)
    refine ⟨I2, _, ?_, b2, by omega, (f3.trans a3 (Nat.le_refl _)).mono (Nat.zero_le _) |>.trans b3 (Nat.zero_le _)⟩
    rw [a1, Option.bind_some, b1, Option.bind_some, lb_154_7, f145_n b2.1 r3.1 r3.2, Option.bind_some, if_pos (show nI 0 = 0 from rfl)]
    rfl
  rcases hr with ⟨rfl, q, rfl⟩ | ⟨rfl, q, rfl⟩ | ⟨q1, q2, rfl⟩
  · rw [if_neg (show ¬ (2 = 3 ∧ ¬ ksg sg) from fun z => absurd z.1 (by decide))] at k17
    have l4 : (4 : Int32) < nI (e - s) := (ltN (a := 4) (by decide) (by omega)).mpr q
    obtain ⟨I', n', a1, a2, a3, a4⟩ := fin (1 : Int32) (nI v)
    refine ⟨I', n', ?_, a2, a3, a4⟩
    rw [f_154, g, Option.bind_some, if_neg (show ¬ nI 1 = 0 by decide), k17, if_pos (show nI 2 = (2 : Int32) from rfl), k19, if_pos l4, show f_144 (2 : Int32) I = _ from f1, Option.bind_some, lb_154_2]
    obtain ⟨I1, b1, b2, b3, b4⟩ := f2.emit (c := (1 : Int32)) (by omega)
    rw [b1, Option.bind_some] at a1 ⊢
    rw [b4 20 (by decide), up_nk (by decide), up_nk (by decide), k20]
    exact a1
  · rw [if_neg (show ¬ (1 = 3 ∧ ¬ ksg sg) from fun z => absurd z.1 (by decide))] at k17
    obtain ⟨I', n', a1, a2, a3, a4⟩ := fin (2 : Int32) (mw W)
    refine ⟨I', n', ?_, a2, a3, a4⟩
    have t4 : lb_154_4 (mw W) I J = some (I', J) := by
      rw [lb_154_4, show f_144 (3 : Int32) I = _ from f1, Option.bind_some, lb_154_5]
      exact a1
    rw [f_154, g, Option.bind_some, if_neg (show ¬ nI 1 = 0 by decide), k17, if_neg (show ¬ nI 1 = (2 : Int32) by decide), if_pos (show nI 1 = (1 : Int32) from rfl), f143_s hk0, Option.bind_some, t4]
    rcases wcd_no W w2 w1 q with z | z
    · rw [if_pos z]
    · rw [if_pos z, ite_self]
  · have kk : ∃ c : Nat, I 97 17 = nI c ∧ c < 5 ∧ c ≠ 1 ∧ c ≠ 2 := by
      refine ⟨_, k17, ?_, ?_, ?_⟩ <;> split <;> omega
    obtain ⟨c, c1, c2, c3, c4⟩ := kk
    refine ⟨_, _, ?_, f2, by omega, f3.mono (Nat.zero_le _)⟩
    rw [f_154, g, Option.bind_some, if_neg (show ¬ nI 1 = 0 by decide), c1, if_neg (show ¬ nI c = (2 : Int32) from fun z => c4 ((eqN (b := 2) (by omega) (by decide)).mp z)), if_neg (show ¬ nI c = (1 : Int32) from fun z => c3 ((eqN (b := 1) (by omega) (by decide)).mp z)), show f_144 (1 : Int32) I = _ from f1, Option.bind_some, lb_154_7, f145_n f2.1 r3.1 r3.2, Option.bind_some, if_pos (show nI 0 = 0 from rfl)]
    rfl
/-- nots, one too many -/
theorem m156_6 {m m2 : Nat} (h : PMd b0 P Ws cmp I) (hk : MT s e kd v sg 16 I J) : fx (fun _ _ _ _ => none) (bd_156_2 (fx (fun _ _ _ _ => none) bd_156_1 (m2 + 1))) (m + 2) (nI 1) (nI 6) I J = some (up (up I 97 12 (nI 2)) 97 13 (nI s), J) := by
  obtain ⟨f1, f2, f3⟩ := h.fault (r := 2) hk.2.1 (by decide) (by decide)
  rw [fx_s, bd_156_2, f145_y h.2.2.2, Option.bind_some, if_neg (show ¬ nI 1 = 0 by decide), if_neg (show ¬ nI 1 = 0 by decide), f143_s hk, Option.bind_some, if_pos (show mw 16 = (15 : Int32) from rfl), if_pos (show nI 6 = (6 : Int32) from rfl), show f_144 (2 : Int32) I = _ from f1, Option.bind_some, lb_156_3, f145_n f2.1 (by decide) (by decide), Option.bind_some, if_pos (show nI 0 = 0 from rfl)]
  exact m156_x f2.1 (by decide) (by decide)
/-- brackets, one too many -/
theorem m156_d {m m2 x2 : Nat} {x4 : Int32} (h : PMd b0 P Ws cmp I) (hT : TM t E I) (hk : MT s e 3 v 40 17 I J) (hl : Ws.length < 650) (hd : dpt Ws = 5) (he : e ≤ E) (kn : Tk t E e s' e' kd' v' sg' W') (tk : Tok E s' e' kd' v' sg' W') : ∃ I' J', fx (fun _ _ _ _ => none) (bd_156_2 (fx (fun _ _ _ _ => none) bd_156_1 (m2 + 1))) (m + 1) (nI x2) x4 I J = some (I', J') ∧ MF (if kd' = 1 ∨ kd' = 2 ∨ sg' = 40 then 2 else 1) s' (b0 + (encL P).length) (16 :: Ws) I' ∧ Vm 0 I I' ∧ UJ J J' := by
  obtain ⟨h1, h2, h3, h4⟩ := h
  obtain ⟨I1, a1, a2, a3⟩ := f153_s (k := 16) h1 hl
  obtain ⟨I2, J2, b1, b2, b3, b4⟩ := f140_s (J := J) (hT.v (Um.v a3)) (by rw [a3.2.1 16 (by decide) (by decide)]; exact hk.1) he kn
  have e31 : I2 97 31 = nI 6 := by rw [b3.2 31 (by decide), a3.2.1 31 (by decide) (by decide), h2, hd]
  have e12 : I2 97 12 = nI 0 := by rw [b3.2 12 (by decide), a3.2.1 12 (by decide) (by decide)]; exact h4
  obtain ⟨n1, n2, n3, n4⟩ := a2
  have b20 := b2
  obtain ⟨q16, q18, q17, q19, q20, q21, _, _, q3⟩ := b2
  obtain ⟨_, _, _, hsg, _, ⟨w1, w2⟩, _, _, hs⟩ := tk
  have u2 : Vm 0 I I2 := (Um.v a3).mono (Nat.zero_le _) |>.trans (b3.v (y := 0) (by decide)) (Nat.le_refl _)
  have f155 : f_155 I2 = some (up (up I2 97 12 (nI (if kd' = 1 ∨ kd' = 2 ∨ sg' = 40 then 2 else 1))) 97 13 (nI s')) := by
    have s40 : f_146 (40 : Int32) I2 = some (nI (if sg' = 40 then 1 else 0)) := f146_s (c := 40) b20 hsg (by decide) hs
    have f144 : ∀ r : Nat, lb_155_4 (nI r) I2 = some (up (up I2 97 12 (nI r)) 97 13 (nI s')) := fun r => by
      rw [lb_155_4, f144_s e12 q18]
      rfl
    have f144b : lb_155_2 I2 = some (up (up I2 97 12 (nI 2)) 97 13 (nI s')) := f144 2
    have f144a : lb_155_4 (1 : Int32) I2 = some (up (up I2 97 12 (nI 1)) 97 13 (nI s')) := f144 1
    rw [f_155, e31, if_neg (show ¬ nI 6 < (6 : Int32) by decide), q17, s40, Option.bind_some, b01, f144a, f144b]
    have kc : (if kd' = 3 ∧ ¬ ksg sg' then 4 else kd') < 5 := by split <;> omega
    by_cases z2 : kd' = 2
    · rw [if_pos (show nI (if kd' = 3 ∧ ¬ ksg sg' then 4 else kd') = (2 : Int32) by rw [if_neg (by omega), z2]; rfl), if_pos (Or.inr (Or.inl z2))]
    · have n2 : ¬ nI (if kd' = 3 ∧ ¬ ksg sg' then 4 else kd') = (2 : Int32) := fun z => by
        have z' := (eqN (b := 2) (by omega) (by decide)).mp z
        split at z' <;> omega
      rw [if_neg n2]
      by_cases z1 : kd' = 1
      · rw [if_pos (show nI (if kd' = 3 ∧ ¬ ksg sg' then 4 else kd') = (1 : Int32) by rw [if_neg (by omega), z1]; rfl), if_pos (Or.inl z1)]
      · have n1 : ¬ nI (if kd' = 3 ∧ ¬ ksg sg' then 4 else kd') = (1 : Int32) := fun z => by
          have z' := (eqN (b := 1) (by omega) (by decide)).mp z
          split at z' <;> omega
        rw [if_neg n1]
        by_cases z4 : sg' = 40
        · rw [if_pos z4, if_pos (Or.inr (Or.inr z4))]
        · rw [if_neg z4, if_neg (by omega)]
  generalize hr : (if kd' = 1 ∨ kd' = 2 ∨ sg' = 40 then 2 else 1) = r at f155
  have r3 : 0 < r ∧ r < 10 := by split at hr <;> omega
  have u1 : Uk 97 [12, 13] I2 (up (up I2 97 12 (nI r)) 97 13 (nI s')) := ((Uk.refl _ _ _).up (by decide)).up (by decide)
  have m12 : (up (up I2 97 12 (nI r)) 97 13 (nI s')) 97 12 = nI r := by rw [up_nk (by decide), up_at]
  refine ⟨up (up I2 97 12 (nI r)) 97 13 (nI s'), J2, ?_, ⟨m12, up_at, ?_, ?_, ?_⟩, u2.trans (u1.vf (y := 0) (r := r) m12 r3.1 r3.2) (Nat.le_refl _), b4⟩
  · have s40 : f_146 (40 : Int32) I = some (nI (if 40 = 40 then 1 else 0)) := f146_s (c := 40) hk (by decide) (by decide) (fun z => absurd rfl z)
    have tl : lb_156_5 (fx (fun _ _ _ _ => none) bd_156_1 (m2 + 1)) (nI x2) I J = some (up (up I2 97 12 (nI r)) 97 13 (nI s'), J2) := by
      rw [lb_156_5, f145_y h4, Option.bind_some, if_neg (show ¬ nI 1 = 0 by decide), s40, Option.bind_some, if_neg (show ¬ nI (if 40 = 40 then 1 else 0) = 0 by decide), lb_156_7, if_neg (show ¬ (1 : Int32) = 0 by decide), show f_153 (14 : Int32) I = some I1 from a1, Option.bind_some, b1, Option.bind_some]
      dsimp only
      rw [f155, Option.bind_some, lb_156_8, fx_s, bd_156_1, if_neg (show ¬ (1 : Int32) = 0 by decide), f145_n m12 r3.1 r3.2, Option.bind_some, if_pos (show nI 0 = 0 from rfl), lb_156_9, f_154, f145_n m12 r3.1 r3.2, Option.bind_some, if_pos (show nI 0 = 0 from rfl)]
      rfl
    rw [fx_s, bd_156_2, f145_y h4, Option.bind_some, if_neg (show ¬ nI 1 = 0 by decide), f143_s hk, Option.bind_some, if_neg (show ¬ mw 17 = (15 : Int32) by decide), tl, ite_self]
  · rw [u1.2 29 (by decide), b3.2 29 (by decide)]; exact n1
  · rw [u1.2 30 (by decide), b3.2 30 (by decide)]; exact n3
  · rw [u1.1 108 (by decide), b3.1 108 (by decide)]; exact n4
end MY
