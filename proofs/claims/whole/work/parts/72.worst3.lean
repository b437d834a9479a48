/-! worst, the model's side -/
section WM
variable {C H N M w : Nat} {K S : Nat → Nat} {Y : Nat → Nat → Nat} {I : Nat → Nat → Int32}
theorem SetP.md2 (h : SetP C H N M w K S Y I) {i a : Nat} (hi : i < 2147483648) (ha : a < H) {R : Type} (F : (Nat → Nat → Int32) → Option R) : ∃ I1, ((f_173 (nI i) I).bind fun q5 => (f_174 (nI i) I).bind fun q6 => (f_167 q5 q6 I).bind fun q7 => (f_175 (nI i) q7).bind fun q8 => (f_172 q8 (nI a) q7).bind fun q9 => (f_168 (nI a) (nI a) q9.1 q9.2).bind F) = F I1 ∧ Fr [110, 111, 112, 113, 114, 115] I I1 ∧ MD C H (K (i % max N 1)) (S (i % max N 1)) I1 ∧ SM H (bef (ct C H (K (i % max N 1)) C) (ord a a (Y (i % max N 1) a) H)) I1 := by
  obtain ⟨e1, hl⟩ := h.f51 hi
  obtain ⟨I1, r1, r2, r3⟩ := f167_s h.ch (h.k3 hl) (h.s2 hl) h.mc
  have k1 : Keep I I1 := Keep.fr r3 (by decide)
  have h1 := h.keep k1
  obtain ⟨I2, s1, s2⟩ := h1.f172 hl ha (r2.2.2.2 a ha)
  obtain ⟨I3, t1, t2, t3, t4⟩ := f168_s h.ch ha ha (h.yl hl ha) (r2.fr s2 (by decide) (by decide) (by decide) (by decide))
  refine ⟨I3, ?_, ((r3.mono (by decide)).trans (s2.mono (by decide))).trans (t4.mono (by decide)), t3, t2⟩
  rw [h.f173 hi, h.f174 hi, Option.bind_some, Option.bind_some, r1, Option.bind_some, h1.f175 hi, Option.bind_some, s1, Option.bind_some, t1, Option.bind_some]
/-- every card steps -/
theorem w7_in {k h : Nat} {X : Nat → Nat × Nat} (hC : CH C H) (hh : h < H) (c6 : Int32 → Int32 → Int32 → Int32 → Int32 → Int32 → (Nat → Nat → Int32) → Option (Int32 × (Nat → Nat → Int32))) (x1 x2 x3 x4 x5 : Int32) : ∀ (j c m : Nat) (I : Nat → Nat → Int32), c + j = C → j < m → MD C H (K (k % max N 1)) (S (k % max N 1)) I → SM H (bef (ct C H (K (k % max N 1)) C) (ord h h (Y (k % max N 1) h) H)) I → (∀ x, x < C → (X x).1 < C ∧ (X x).2 ≤ 1000 ∧ I 120 x = nI (if x < c then (stp C H (max N 1) K S Y k h (X x)).1 else (X x).1) ∧ I 121 x = nI (if x < c then (stp C H (max N 1) K S Y k h (X x)).2 else (X x).2)) → ∃ I', fx (fun _ _ _ _ _ _ _ _ _ => none) (bd_196_7 c6) m x1 x2 x3 x4 x5 (nI k) (nI h) (nI c) I = c6 x1 x2 x3 x4 x5 (nI (k + 1)) I' ∧ Fr [120, 121] I I' ∧ (∀ x, x < C → I' 120 x = nI (stp C H (max N 1) K S Y k h (X x)).1 ∧ I' 121 x = nI (stp C H (max N 1) K S Y k h (X x)).2) := by
  obtain ⟨c1, c2, c3, c4⟩ := hC
  have hC' : CH C H := ⟨c1, c2, c3, c4⟩
  intro j
  induction j with
  | zero =>
    intro c m I e hm hd hs hx
    cases m with
    | zero => omega
    | succ m =>
      obtain rfl : c = C := by omega
      refine ⟨I, ?_, Fr.refl _ _, fun x hx' => ?_⟩
      · have one : nI k + (1 : Int32) = nI (k + 1) := addN k 1
        rw [fx_s, bd_196_7, hd.1.1, if_neg (Int32.lt_irrefl (a := nI c)), one]
      · obtain ⟨_, _, y3, y4⟩ := hx x hx'
        rw [if_pos hx'] at y3 y4
        exact ⟨y3, y4⟩
  | succ j ih =>
    intro c m I e hm hd hs hx
    cases m with
    | zero => omega
    | succ m =>
      have hc : c < C := by omega
      obtain ⟨y1, y2, y3, y4⟩ := hx c hc
      rw [if_neg (Nat.lt_irrefl c)] at y3 y4
      have hq := hd.2.1 (X c).1 y1
      have hl := hp_lt (k := K (k % max N 1)) c1 c3 y1
      have e2 : (stp C H (max N 1) K S Y k h (X c)).2 = (X c).2 + if hp C H (K (k % max N 1)) (X c).1 = h then 0 else 1 := rfl
      generalize hv : (stp C H (max N 1) K S Y k h (X c)).2 = v at e2
      have fr1 : Fr [120, 121] I (up I 121 c (nI v)) := (Fr.refl _ _).up (by decide)
      have hd1 : MD C H (K (k % max N 1)) (S (k % max N 1)) (up I 121 c (nI v)) := hd.fr fr1 (by decide) (by decide) (by decide) (by decide)
      have hs1 : SM H (bef (ct C H (K (k % max N 1)) C) (ord h h (Y (k % max N 1) h) H)) (up I 121 c (nI v)) := fun y hy => by rw [fr1 113 (by decide)]; exact hs y hy
      have g : f_170 (nI (X c).1) (up I 121 c (nI v)) = some (nI (stp C H (max N 1) K S Y k h (X c)).1) := f170_s hC' hd1 hs1 y1
      have fr2 : Fr [120, 121] I (up (up I 121 c (nI v)) 120 c (nI (stp C H (max N 1) K S Y k h (X c)).1)) := fr1.up (by decide)
      obtain ⟨I', a1, a2, a3⟩ := ih (c + 1) m (up (up I 121 c (nI v)) 120 c (nI (stp C H (max N 1) K S Y k h (X c)).1)) (by omega) (by omega) (hd.fr fr2 (by decide) (by decide) (by decide) (by decide)) (fun y hy => by rw [fr2 113 (by decide)]; exact hs y hy) (fun x hx' => by
        obtain ⟨z1, z2, z3, z4⟩ := hx x hx'
        refine ⟨z1, z2, ?_, ?_⟩
        · by_cases z : x = c
          · rw [z, up_at, if_pos (Nat.lt_succ_self c)]
          · rw [up_nk z, up_ne (by decide), z3]
            by_cases z' : x < c
            · rw [if_pos z', if_pos (by omega)]
            · rw [if_neg z', if_neg (by omega)]
        · rw [up_ne (by decide)]
          by_cases z : x = c
          · rw [z, up_at, if_pos (Nat.lt_succ_self c), hv]
          · rw [up_nk z, z4]
            by_cases z' : x < c
            · rw [if_pos z', if_pos (by omega)]
            · rw [if_neg z', if_neg (by omega)])
      refine ⟨I', ?_, fr2.trans a2, a3⟩
      have i120 : (up I 121 c (nI v)) 120 c = nI (X c).1 := by rw [up_ne (by decide)]; exact y3
      have inC : ex_in (nI c) 60 := (inN (by omega)).mpr (by omega)
      have clC : (nI c).toNatClampNeg = c := clN (by omega)
      have inX : ex_in (nI (X c).1) 60 := (inN (by omega)).mpr (by omega)
      have clX : (nI (X c).1).toNatClampNeg = (X c).1 := clN (by omega)
      have two : nI c + (1 : Int32) = nI (c + 1) := addN c 1
      have tail : ∀ s3 : Int32, nI (X c).2 + s3 = nI v → lb_196_9 (fx (fun _ _ _ _ _ _ _ _ _ => none) (bd_196_7 c6) m) x1 x2 x3 x4 x5 (nI k) (nI h) (nI c) (nI c) (nI (X c).2) s3 I = c6 x1 x2 x3 x4 x5 (nI (k + 1)) I' := by
        intro s3 es
        rw [lb_196_9, if_pos inC, es]
        dsimp only
        simp only [if_pos inC, clC, i120, g, Option.bind_some, two]
        exact a1
      rw [fx_s, bd_196_7, hd.1.1, if_pos ((ltN (by omega) (by omega)).mpr hc), if_pos inC, if_pos inC, clC, y3, if_pos inX, clX, hq, y4]
      by_cases q : hp C H (K (k % max N 1)) (X c).1 = h
      · rw [if_pos ((eqN (by omega) (by omega)).mpr q)]
        rw [if_pos q] at e2
        exact tail 0 (by rw [e2]; exact addN (X c).2 0)
      · rw [if_neg (fun z => q ((eqN (by omega) (by omega)).mp z))]
        rw [if_neg q] at e2
        exact tail 1 (by rw [e2]; exact addN (X c).2 1)
/-- the counting of a row -/
theorem w12_in {f : Nat → Nat} {most : Nat} (hC : C ≤ 60) (hM : M ≤ 2) (hm60 : most ≤ 60) (c3 : Int32 → Int32 → Int32 → Int32 → (Nat → Nat → Int32) → Option (Int32 × (Nat → Nat → Int32))) (x1 x2 x4 : Int32) (h1 : I 97 1 = nI C) (h4 : I 97 4 = nI M) (hf : ∀ c, c < C → f c ≤ 1000 ∧ I 121 c = nI (f c)) : ∀ (j c m : Nat), c + j = C → j < m → fx (fun _ _ _ _ _ _ _ => none) (bd_196_12 c3) m x1 x2 (nI most) x4 (nI (fitN M f c)) (nI c) I = c3 x1 x2 (nI (max most (fitN M f C))) (x4 + (1 : Int32)) I := by
  intro j
  induction j with
  | zero =>
    intro c m e hm
    cases m with
    | zero => omega
    | succ m =>
      obtain rfl : c = C := by omega
      have fl := fitN_le M f c
      rw [fx_s, bd_196_12, h1, if_neg (Int32.lt_irrefl (a := nI c))]
      unfold lb_196_17
      by_cases q : most < fitN M f c
      · rw [if_pos ((ltN (by omega) (by omega)).mpr q), Nat.max_eq_right (by omega)]
      · rw [if_neg (fun z => q ((ltN (by omega) (by omega)).mp z)), Nat.max_eq_left (by omega)]
  | succ j ih =>
    intro c m e hm
    cases m with
    | zero => omega
    | succ m =>
      have hc : c < C := by omega
      obtain ⟨f1, f2⟩ := hf c hc
      have two : nI c + (1 : Int32) = nI (c + 1) := addN c 1
      rw [← ih (c + 1) m (by omega) (by omega), fitN, fx_s, bd_196_12, h1, if_pos ((ltN (by omega) (by omega)).mpr hc), if_pos ((inN (by omega)).mpr (by omega)), clN (by omega), f2, h4]
      unfold lb_196_14
      by_cases q : M < f c
      · rw [if_pos ((ltN (by omega) (by omega)).mpr q), if_pos q, two, show nI (fitN M f c) + (0 : Int32) = nI (fitN M f c + 0) from addN _ 0]
      · rw [if_neg (fun z => q ((ltN (by omega) (by omega)).mp z)), if_neg q, two, show nI (fitN M f c) + (1 : Int32) = nI (fitN M f c + 1) from addN _ 1]
/-- the deals of a row -/
theorem w6_in {n : Nat} (hn : n ≤ 6) (c3 : Int32 → Int32 → Int32 → Int32 → (Nat → Nat → Int32) → Option (Int32 × (Nat → Nat → Int32))) (x2 x3 x4 : Int32) : ∀ (j k m r : Nat) (X : Nat → Nat × Nat) (I : Nat → Nat → Int32), k + j = n → j < m → r < 1000000 → SetP C H N M w K S Y I → (∀ x, x < C → (X x).1 < C ∧ (X x).2 ≤ k ∧ I 120 x = nI (X x).1 ∧ I 121 x = nI (X x).2) → ∃ I', fx (fun _ _ _ _ _ _ _ => none) (bd_196_6 c3) m (nI n) x2 x3 x4 (nI r) (nI k) I = lb_196_12 c3 (nI n) x2 x3 x4 (nI 0) (nI 0) I' ∧ Keep I I' ∧ I' 97 = I 97 ∧ (∀ x, x < C → (rnF (C := C) (H := H) (R := max N 1) (K := K) (S := S) (Y := Y) j k r X x).2 ≤ 1000 ∧ I' 121 x = nI (rnF (C := C) (H := H) (R := max N 1) (K := K) (S := S) (Y := Y) j k r X x).2) := by
  intro j
  induction j with
  | zero =>
    intro k m r X I e hm hr hS hx
    cases m with
    | zero => omega
    | succ m =>
      obtain rfl : k = n := by omega
      refine ⟨I, ?_, Keep.refl I, rfl, fun x hx' => ?_⟩
      · rw [fx_s, bd_196_6, if_neg (Int32.lt_irrefl (a := nI k))]
        rfl
      · obtain ⟨_, y2, _, y4⟩ := hx x hx'
        rw [rnF]
        exact ⟨by omega, y4⟩
  | succ j ih =>
    intro k m r X I e hm hr hS hx
    cases m with
    | zero => omega
    | succ m =>
      obtain ⟨c1, c2, c3', c4⟩ := hS.ch
      have hh : r % H < H := Nat.mod_lt r (by omega)
      have rd : r / H ≤ r := Nat.div_le_self r H
      obtain ⟨I1, a1, a2, a3, a4⟩ := hS.md2 (i := k) (by omega) hh (fun q10 => lb_196_7 (fx (fun _ _ _ _ _ _ _ => none) (bd_196_6 c3) m) (nI n) x2 x3 x4 (nI (r / H)) (nI k) (nI (r % H)) (0 : Int32) q10)
      obtain ⟨I2, b1, b2, b3⟩ := w7_in (N := N) (K := K) (S := S) (Y := Y) (k := k) (h := r % H) (X := X) hS.ch hh (fx (fun _ _ _ _ _ _ _ => none) (bd_196_6 c3) m) (nI n) x2 x3 x4 (nI (r / H)) C 0 FU I1 (by omega) (FU_big (by omega)) a3 a4 (fun x hx' => by
        obtain ⟨y1, y2, y3, y4⟩ := hx x hx'
        rw [if_neg (Nat.not_lt_zero x), if_neg (Nat.not_lt_zero x), a2 120 (by decide), a2 121 (by decide)]
        exact ⟨y1, by omega, y3, y4⟩)
      have k2 : Keep I I2 := (Keep.fr a2 (by decide)).trans (Keep.fr b2 (by decide))
      obtain ⟨I3, d1, d2, d3, d4⟩ := ih (k + 1) m (r / H) (fun c => stp C H (max N 1) K S Y k (r % H) (X c)) I2 (by omega) (by omega) (by omega) (hS.keep k2) (fun x hx' => by
        obtain ⟨y1, y2, _, _⟩ := hx x hx'
        obtain ⟨z1, z2⟩ := b3 x hx'
        refine ⟨np_lt c1 c3' hh hh y1, ?_, z1, z2⟩
        have e2 : (stp C H (max N 1) K S Y k (r % H) (X x)).2 = (X x).2 + if hp C H (K (k % max N 1)) (X x).1 = r % H then 0 else 1 := rfl
        rw [e2]
        split <;> omega)
      refine ⟨I3, ?_, k2.trans d2, by rw [d3, b2 97 (by decide), a2 97 (by decide)], fun x hx' => by rw [rnF]; exact d4 x hx'⟩
      have ne : ¬ nI H = 0 := fun z => by
        have := (eqN (b := 0) (show H < 2147483648 by omega) (by decide)).mp z
        omega
      rw [fx_s, bd_196_6, if_pos ((ltN (by omega) (by omega)).mpr (by omega)), hS.m2, if_neg ne, if_neg ne, remN (by omega) (by omega) (by omega), divN (by omega) (by omega) (by omega), a1, ← d1]
      exact b1
theorem w4_in {n row most : Nat} (hn : n ≤ 6) (hrow : row < 1000000) (hm60 : most ≤ 60) (c3 : Int32 → Int32 → Int32 → Int32 → (Nat → Nat → Int32) → Option (Int32 × (Nat → Nat → Int32))) (x2 : Int32) : ∀ (j c m : Nat) (I : Nat → Nat → Int32), c + j = C → j < m → SetP C H N M w K S Y I → (∀ x, x < c → I 120 x = nI x ∧ I 121 x = nI 0) → ∃ I', fx (fun _ _ _ _ _ _ => none) (bd_196_4 c3) m (nI n) x2 (nI most) (nI row) (nI c) I = c3 (nI n) x2 (nI (max most (wrs C H (max N 1) M K S Y n row))) (nI (row + 1)) I' ∧ Keep I I' ∧ I' 97 = I 97 := by
  intro j
  induction j with
  | zero =>
    intro c m I e hm hS hx
    cases m with
    | zero => omega
    | succ m =>
      obtain ⟨c1, c2, c3', c4⟩ := hS.ch
      obtain rfl : c = C := by omega
      obtain ⟨I', a1, a2, a3, a4⟩ := w6_in (C := c) (H := H) (N := N) (M := M) (w := w) (K := K) (S := S) (Y := Y) hn c3 x2 (nI most) (nI row) n 0 FU row (fun c => (c, 0)) I (by omega) (FU_big (by omega)) hrow hS (fun x hx' => ⟨hx', Nat.zero_le 0, (hx x hx').1, (hx x hx').2⟩)
      have h2 := hS.keep a2
      have b := w12_in (C := c) (M := M) (I := I') (f := fun x => (rnF (C := c) (H := H) (R := max N 1) (K := K) (S := S) (Y := Y) n 0 row (fun c => (c, 0)) x).2) (most := most) c4 hS.2.2.1 hm60 c3 (nI n) x2 (nI row) h2.m1 h2.2.2.2.2.2.2.2.2.2.1.2.2.2.1 a4 c 0 FU (by omega) (FU_big (by omega))
      refine ⟨I', ?_, a2, a3⟩
      rw [fx_s, bd_196_4, hS.m1, if_neg (Int32.lt_irrefl (a := nI c))]
      have one : nI row + (1 : Int32) = nI (row + 1) := addN row 1
      rw [one] at b
      exact a1.trans b
  | succ j ih =>
    intro c m I e hm hS hx
    cases m with
    | zero => omega
    | succ m =>
      obtain ⟨c1, c2, c3', c4⟩ := hS.ch
      have k1 : Keep I (up (up I 120 c (nI c)) 121 c (nI 0)) := Keep.fr (((Fr.refl [120, 121] I).up (by decide)).up (by decide)) (by decide)
      obtain ⟨I', a1, a2, a3⟩ := ih (c + 1) m (up (up I 120 c (nI c)) 121 c (nI 0)) (by omega) (by omega) (hS.keep k1) (fun x hx' => by
        by_cases z : x = c
        · rw [z, up_ne (by decide), up_at, up_at]
          exact ⟨rfl, rfl⟩
        · rw [up_ne (by decide), up_nk z, up_nk z, up_ne (by decide)]
          exact hx x (by omega))
      refine ⟨I', ?_, k1.trans a2, by rw [a3, up_ne (by decide), up_ne (by decide)]⟩
      have inC : ex_in (nI c) 60 := (inN (by omega)).mpr (by omega)
      have two : nI c + (1 : Int32) = nI (c + 1) := addN c 1
      rw [fx_s, bd_196_4, hS.m1, if_pos ((ltN (by omega) (by omega)).mpr (by omega)), if_pos inC]
      dsimp only
      simp only [if_pos inC, clN (show c < 2147483648 by omega), two]
      exact a1
theorem w3_in {n : Nat} (hn : n ≤ 6) (hH : H ^ n ≤ 5000) : ∀ (j row m : Nat) (I : Nat → Nat → Int32), row + j = H ^ n → j < m → SetP C H N M w K S Y I → ∃ I', fx (fun _ _ _ _ _ => none) bd_196_3 m (nI n) (nI (H ^ n)) (nI (mr (wrs C H (max N 1) M K S Y n) row)) (nI row) I = some (nI (mr (wrs C H (max N 1) M K S Y n) (H ^ n)), I') ∧ Keep I I' ∧ I' 97 = I 97 := by
  intro j
  induction j with
  | zero =>
    intro row m I e hm hS
    cases m with
    | zero => omega
    | succ m =>
      obtain rfl : row = H ^ n := by omega
      refine ⟨I, ?_, Keep.refl I, rfl⟩
      rw [fx_s, bd_196_3, if_neg (Int32.lt_irrefl (a := nI (H ^ n)))]
  | succ j ih =>
    intro row m I e hm hS
    cases m with
    | zero => omega
    | succ m =>
      have c4 := hS.ch.2.2.2
      have wb : ∀ r, wrs C H (max N 1) M K S Y n r ≤ 60 := fun r => Nat.le_trans (fitN_le M _ C) c4
      have mb := mr_60 wb row
      obtain ⟨I1, a1, a2, a3⟩ := w4_in (C := C) (H := H) (N := N) (M := M) (w := w) (K := K) (S := S) (Y := Y) (n := n) (row := row) (most := mr (wrs C H (max N 1) M K S Y n) row) hn (by omega) mb (fx (fun _ _ _ _ _ => none) bd_196_3 m) (nI (H ^ n)) C 0 FU I (by omega) (FU_big (by omega)) hS (fun x hx => absurd hx (Nat.not_lt_zero x))
      obtain ⟨I2, b1, b2, b3⟩ := ih (row + 1) m I1 (by omega) (by omega) (hS.keep a2)
      refine ⟨I2, ?_, a2.trans b2, b3.trans a3⟩
      rw [fx_s, bd_196_3, if_pos ((ltN (by omega) (by omega)).mpr (by omega)), ← b1]
      exact a1
theorem worst_s (h : SetP C H N M w K S Y I) (x1 : Int32) : ∃ q I1 b I2, f_102 x1 I = some (q, I1) ∧ Keep I I1 ∧ f_196 x1 I1 = some (b, I2) ∧ Keep I1 I2 ∧ OKq cdI q b (I2 97 0) := by
  obtain ⟨c1, c2, c3, c4⟩ := h.ch
  have z0 : ∀ I : Nat → Nat → Int32, (up I 97 0 (nI 0)) 97 0 = nI 0 := fun _ => up_at
  have dec : (∃ n, n ≤ 6 ∧ x1 = nI n) ∨ (x1 < nI 0 ∨ nI 6 < x1) := by
    rcases ix x1 7 (by decide) with ⟨n, hn, rfl⟩ | o
    · exact Or.inl ⟨n, by omega, rfl⟩
    · refine Or.inr (o.imp id fun o => ?_)
      rw [Int32.lt_iff_toInt_lt] at o ⊢
      have e6 : (nI 6).toInt = 6 := by decide
      have e7 : (nI 7).toInt = 7 := by decide
      omega
  rcases dec with ⟨n, hn, rfl⟩ | o
  · have y1 : f_122 (nI n) (0 : Int32) (6 : Int32) = some (nI 1) := f122_y (Nat.zero_le n) hn (by decide)
    have y2 : f_133 (nI n) (0 : Int32) (6 : Int32) = some (nI 1) := f133_y (Nat.zero_le n) hn (by decide)
    have n1 : ¬ nI 1 = 0 := by decide
    have p6 : H ^ n ≤ 46656 := Nat.le_trans (Nat.pow_le_pow_left c2 n) (Nat.le_trans (Nat.pow_le_pow_right (by decide) hn) (by decide))
    have hm : ∀ I1, SetP C H N M w K S Y I1 → f_196 (nI n) I1 = if 5000 < H ^ n then some ((-2 : Int32), up I1 97 0 (nI 0)) else lb_196_3 (nI n) (nI (H ^ n)) (0 : Int32) (0 : Int32) (up I1 97 0 (nI 0)) := by
      intro I1 h1
      have h1' := h1.up0 (nI 0)
      rw [f_196, y2, Option.bind_some, show f_132 (nI 1) (1 : Int32) (up I1 97 0 (0 : Int32)) = some (nI 1, up I1 97 0 (0 : Int32)) from f132_y (z0 I1), Option.bind_some]
      dsimp only
      rw [if_neg n1, show (up I1 97 0 (0 : Int32)) 97 2 = nI H from h1'.m2, f188_s c2 hn, Option.bind_some]
      by_cases q : 5000 < H ^ n
      · rw [if_pos q, if_pos (show (5000 : Int32) < nI (H ^ n) from (ltN (a := 5000) (by decide) (by omega)).mpr q)]
        rfl
      · rw [if_neg q, if_neg (show ¬ (5000 : Int32) < nI (H ^ n) from fun z => q ((ltN (a := 5000) (by decide) (by omega)).mp z))]
        rfl
    have hc : f_102 (nI n) I = if 5000 < H ^ n then some (.inl (-2 : Int32), I) else (f_12 (nI n) I).bind fun q3 => some (.inl q3.1, q3.2) := by
      rw [f_102, y1, Option.bind_some, if_neg n1, h.i5, f123_s c2 hn, Option.bind_some]
      by_cases q : 5000 < H ^ n
      · rw [if_pos q, if_pos (show (5000 : Int32) < nI (H ^ n) from (ltN (a := 5000) (by decide) (by omega)).mpr q)]
        rfl
      · rw [if_neg q, if_neg (show ¬ (5000 : Int32) < nI (H ^ n) from fun z => q ((ltN (a := 5000) (by decide) (by omega)).mp z))]
        rfl
    by_cases q : 5000 < H ^ n
    · refine ⟨.inl (-2 : Int32), I, (-2 : Int32), up I 97 0 (nI 0), by rw [hc, if_pos q], Keep.refl I, by rw [hm I h, if_pos q], (Keep.refl I).up0 _, by rw [up_at]; exact ⟨rfl, rfl⟩⟩
    · obtain ⟨I1, a1, a2⟩ := f12_s h hn
      have h1 := h.keep a2
      obtain ⟨I2, b1, b2, b3⟩ := w3_in (C := C) (H := H) (N := N) (M := M) (w := w) (K := K) (S := S) (Y := Y) hn (by omega) (H ^ n) 0 FU (up I1 97 0 (nI 0)) (by omega) (FU_big (by omega)) (h1.up0 (nI 0))
      refine ⟨.inl (nI (mx C H (max N 1) M K S Y n 0 (FlL M (fun c => (c, 0)) C))), I1, nI (mr (wrs C H (max N 1) M K S Y n) (H ^ n)), I2, by rw [hc, if_neg q, a1, Option.bind_some], a2, by rw [hm I1 h1, if_neg q]; exact b1, ((Keep.refl I1).up0 _).trans b2, ?_⟩
      rw [b3, up_at]
      exact ⟨rfl, by rw [mx_wrs (by omega)]⟩
  · refine ⟨.inr 0, I, 0, up (up I 97 0 (nI 0)) 97 0 (nI 1), ?_, Keep.refl I, ?_, ((Keep.refl I).up0 _).up0 _, by rw [up_at]; exact ⟨rfl, by decide, by decide⟩⟩
    · unfold f_102
      simp only [lits, f122_n o, Option.bind_some, if_true]
    · unfold f_196
      simp only [lits, f133_n o, f132_n (w := 1) (z0 I) (by decide) (by decide), Option.bind_some, if_true]
end WM
