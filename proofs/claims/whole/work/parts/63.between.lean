/-! between -/
section BE
variable {C H N M w : Nat} {K S : Nat → Nat} {Y : Nat → Nat → Nat} {I : Nat → Nat → Int32}
/-- the figures of a number -/
def qf (c : Nat) : Nat × Nat × Nat × Nat := (c / 216, c / 36 % 6, c / 6 % 6, c % 6)
theorem cdn_qf {c : Nat} : cdn (qf c) = c := by
  unfold cdn qf
  dsimp only
  omega
theorem dl_n (h : SetP C H N M w K S Y I) {q : Nat × Nat × Nat × Nat} (hq : ¬ cdv H q) (l1 : q.1 < 100) (l2 : q.2.1 < 100) (l3 : q.2.2.1 < 100) (l4 : q.2.2.2 < 100) : f_58 (nI q.1) (nI q.2.1) (nI q.2.2.1) (nI q.2.2.2) I = some (nI 0) ∧ f_193 (nI q.1) (nI q.2.1) (nI q.2.2.1) (nI q.2.2.2) I = some (nI 0) := by
  have c2 := h.ch.2.1
  rcases deal_or h (nI q.1) (nI q.2.1) (nI q.2.2.1) (nI q.2.2.2) with ⟨k, s, l, a, hk, hs, hl, ha, e1, e2, e3, e4⟩ | d
  · rw [eqN (by omega) (by omega)] at e1 e2 e3 e4
    exact absurd ⟨by omega, by omega, by omega, by omega⟩ hq
  · exact d
/-- does a deal give the one of the other -/
def Mt (C H : Nat) (pv sv : Nat → Int32) (q : Nat × Nat × Nat × Nat) : Prop := ∀ p, p < C → pv (np C H q.1 q.2.1 q.2.2.1 q.2.2.2 q.2.2.2 p) = sv p
def Mtd (C H : Nat) (pv sv : Nat → Int32) (q : Nat × Nat × Nat × Nat) : Decidable (Mt C H pv sv q) := Nat.decidableBallLT C (fun p _ => pv (np C H q.1 q.2.1 q.2.2.1 q.2.2.2 q.2.2.2 p) = sv p)
theorem f65_s (h : SetP C H N M w K S Y I) {q : Nat × Nat × Nat × Nat} (hq : cdv H q) {pv sv : Nat → Int32} (hp : ∀ p, p < C → I 88 p = pv p) (hs : ∀ p, p < C → I 89 p = sv p) : ∃ I', f_65 (nI (cdn q)) I = some (@ite _ (Mt C H pv sv q) (Mtd C H pv sv q) (nI 1) (nI 0), I') ∧ Keep I I' := by
  have hC := h.ch
  obtain ⟨c1, c2, c3, c4⟩ := h.ch
  obtain ⟨I1, r1, r2, r3, r4, r5⟩ := f67_s hC hq h.dt
  refine ⟨I1, ?_, r4⟩
  have main : ∀ (j p n : Nat), p + j = C → j < n → (∀ x, x < p → pv (np C H q.1 q.2.1 q.2.2.1 q.2.2.2 q.2.2.2 x) = sv x) → fx (fun _ _ => none) bd_65_1 n (nI p) I1 = some (@ite _ (Mt C H pv sv q) (Mtd C H pv sv q) (nI 1) (nI 0), I1) := by
    intro j
    induction j with
    | zero =>
      intro p n e hn hx
      obtain rfl : p = C := by omega
      cases n with
      | zero => omega
      | succ n =>
        rw [fx_s, bd_65_1, if_pos (c := Mt p H pv sv q) hx]
        simp (disch := omega) only [r2.1.1, lits, ltN, Nat.lt_irrefl, if_false]
    | succ j ih =>
      intro p n e hn hx
      cases n with
      | zero => omega
      | succ n =>
        have hp' : p < C := by omega
        have nl := np_lt (k := q.1) (s := q.2.1) (l := q.2.2.1) c1 c3 hq.2.2.2 hq.2.2.2 hp'
        have g1 : I1 88 (np C H q.1 q.2.1 q.2.2.1 q.2.2.2 q.2.2.2 p) = pv (np C H q.1 q.2.1 q.2.2.1 q.2.2.2 q.2.2.2 p) := by rw [r5 88 (by decide)]; exact hp _ nl
        have g2 : I1 89 p = sv p := by rw [r5 89 (by decide)]; exact hs p hp'
        rw [fx_s, bd_65_1, f10np hC hq r2 r3 hp', Option.bind_some]
        by_cases z : pv (np C H q.1 q.2.1 q.2.2.1 q.2.2.2 q.2.2.2 p) = sv p
        · rw [← ih (p + 1) n (by omega) (by omega) (fun x hx' => by
            by_cases y : x = p
            · rw [y]; exact z
            · exact hx x (by omega))]
          simp (disch := omega) only [r2.1.1, lits, ltN, hp', if_true, atN, g1, g2, z, addN]
        · rw [if_neg (c := Mt C H pv sv q) (fun y => z (y p hp'))]
          simp (disch := omega) only [r2.1.1, lits, ltN, hp', if_true, atN, g1, g2, z, if_false]
  unfold f_65
  rw [r1, Option.bind_some]
  exact main C 0 FU (by omega) (FU_big (by omega)) (fun x hx => absurd hx (Nat.not_lt_zero _))
theorem f204_s (h : SetP C H N M w K S Y I) {q : Nat × Nat × Nat × Nat} (hq : cdv H q) {pv sv : Nat → Int32} (hp : ∀ p, p < C → I 122 p = pv p) (hs : ∀ p, p < C → I 123 p = sv p) : ∃ I', f_204 (nI q.1) (nI q.2.1) (nI q.2.2.1) (nI q.2.2.2) I = some (@ite _ (Mt C H pv sv q) (Mtd C H pv sv q) (nI 1) (nI 0), I') ∧ Keep I I' ∧ I' 97 = I 97 := by
  have hC := h.ch
  obtain ⟨c1, c2, c3, c4⟩ := h.ch
  obtain ⟨I0, t1, t2, t3⟩ := f167_s hC hq.1 hq.2.1 h.mc
  obtain ⟨I1, r1, r3, r2, r5⟩ := f168_s hC hq.2.2.2 hq.2.2.2 hq.2.2.1 t2
  refine ⟨I1, ?_, (Keep.fr t3 (by decide)).trans (Keep.fr r5 (by decide)), by rw [r5 97 (by decide), t3 97 (by decide)]⟩
  have main : ∀ (j p n : Nat), p + j = C → j < n → (∀ x, x < p → pv (np C H q.1 q.2.1 q.2.2.1 q.2.2.2 q.2.2.2 x) = sv x) → fx (fun _ _ => none) bd_204_1 n (nI p) I1 = some (@ite _ (Mt C H pv sv q) (Mtd C H pv sv q) (nI 1) (nI 0), I1) := by
    intro j
    induction j with
    | zero =>
      intro p n e hn hx
      obtain rfl : p = C := by omega
      cases n with
      | zero => omega
      | succ n =>
        rw [fx_s, bd_204_1, if_pos (c := Mt p H pv sv q) hx]
        simp (disch := omega) only [r2.1.1, lits, ltN, Nat.lt_irrefl, if_false]
    | succ j ih =>
      intro p n e hn hx
      cases n with
      | zero => omega
      | succ n =>
        have hp' : p < C := by omega
        have p6 : p < 60 := by omega
        have nl := np_lt (k := q.1) (s := q.2.1) (l := q.2.2.1) c1 c3 hq.2.2.2 hq.2.2.2 hp'
        have n6 : np C H q.1 q.2.1 q.2.2.1 q.2.2.2 q.2.2.2 p < 60 := by omega
        have g1 : I1 122 (np C H q.1 q.2.1 q.2.2.1 q.2.2.2 q.2.2.2 p) = pv (np C H q.1 q.2.1 q.2.2.1 q.2.2.2 q.2.2.2 p) := by rw [r5 122 (by decide), t3 122 (by decide)]; exact hp _ nl
        have g2 : I1 123 p = sv p := by rw [r5 123 (by decide), t3 123 (by decide)]; exact hs p hp'
        have g0 : f_170 (nI p) I1 = some (nI (np C H q.1 q.2.1 q.2.2.1 q.2.2.2 q.2.2.2 p)) := f170_s hC r2 r3 hp'
        rw [fx_s, bd_204_1, g0, Option.bind_some]
        by_cases z : pv (np C H q.1 q.2.1 q.2.2.1 q.2.2.2 q.2.2.2 p) = sv p
        · rw [← ih (p + 1) n (by omega) (by omega) (fun x hx' => by
            by_cases y : x = p
            · rw [y]; exact z
            · exact hx x (by omega))]
          simp (disch := omega) only [r2.1.1, lits, ltN, hp', inN, clN, p6, n6, if_true, g1, g2, z, addN]
        · rw [if_neg (c := Mt C H pv sv q) (fun y => z (y p hp'))]
          simp (disch := omega) only [r2.1.1, lits, ltN, hp', inN, clN, p6, n6, if_true, g1, g2, z, if_false]
  unfold f_204
  rw [t1, Option.bind_some, r1, Option.bind_some]
  exact main C 0 FU (by omega) (FU_big (by omega)) (fun x hx => absurd hx (Nat.not_lt_zero _))
/-- found so far, and the first, as both count them -/
def brd (H : Nat) (q : Nat × Nat × Nat × Nat) : Decidable (cdv H q) := instDecidableAnd
def brf (C H : Nat) (pv sv : Nat → Int32) : Nat → Nat → Nat → Int32 → Nat × Int32
  | 0, _, n, o => (n, o)
  | j + 1, c, n, o => @ite _ (cdv H (qf c)) (brd H (qf c)) (@ite _ (Mt C H pv sv (qf c)) (Mtd C H pv sv (qf c)) (brf C H pv sv j (c + 1) (n + 1) (if o = -1 then nI c else o)) (brf C H pv sv j (c + 1) n o)) (brf C H pv sv j (c + 1) n o)
theorem bw_c {pv sv : Nat → Int32} (x1 : Int32) : ∀ (j c m n : Nat) (o : Int32) (I : Nat → Nat → Int32), SetP C H N M w K S Y I → (∀ p, p < C → I 88 p = pv p) → (∀ p, p < C → I 89 p = sv p) → c + j = 648 → j < m → ∃ I', fx (fun _ _ _ _ _ => none) bd_109_2 m x1 (nI n) o (nI c) I = some (.inl (if x1 = 0 then nI (brf C H pv sv j c n o).1 else (brf C H pv sv j c n o).2), I') ∧ Keep I I' := by
  intro j
  induction j with
  | zero =>
    intro c m n o I h hp hs e hm
    cases m with
    | zero => omega
    | succ m =>
      obtain rfl : c = 648 := by omega
      refine ⟨I, ?_, Keep.refl I⟩
      rw [fx_s, bd_109_2, brf, if_neg (show ¬ nI 648 < (648 : Int32) by decide)]
      unfold lb_109_8
      split <;> rfl
  | succ j ih =>
    intro c m n o I h hp hs e hm
    cases m with
    | zero => omega
    | succ m =>
      have c2 := h.ch.2.1
      have hc : nI c < (648 : Int32) := (ltN (a := c) (b := 648) (by omega) (by decide)).mpr (by omega)
      have g3 : f_121 (nI c) (nI 3) = some (nI (qf c).1) := by
        rw [f121_s (by omega) (by decide)]
        unfold qf
        have : (6 : Nat) ^ 3 = 216 := by decide
        rw [this, Nat.mod_eq_of_lt (by omega)]
      have g2 : f_121 (nI c) (nI 2) = some (nI (qf c).2.1) := f121_s (by omega) (by decide)
      have g1 : f_121 (nI c) (nI 1) = some (nI (qf c).2.2.1) := f121_s (by omega) (by decide)
      have g0 : f_121 (nI c) (nI 0) = some (nI (qf c).2.2.2) := by
        rw [f121_s (by omega) (by decide)]
        unfold qf
        have : (6 : Nat) ^ 0 = 1 := by decide
        rw [this, Nat.div_one]
      rw [fx_s, bd_109_2, if_pos hc, brf]
      by_cases q : cdv H (qf c)
      · have e119 : f_119 (nI c) I = some (nI 1) := by
          unfold f_119
          simp only [lits, g3, g2, g1, g0, Option.bind_some, f58_y h q.1 q.2.1 q.2.2.1 q.2.2.2, or_true, if_true]
        obtain ⟨I1, r1, r2⟩ := f65_s h q hp hs
        rw [cdn_qf] at r1
        have h1 := h.keep r2
        have hp1 : ∀ p, p < C → I1 88 p = pv p := fun p hp' => by rw [r2.1 88 (by decide)]; exact hp p hp'
        have hs1 : ∀ p, p < C → I1 89 p = sv p := fun p hp' => by rw [r2.1 89 (by decide)]; exact hs p hp'
        rw [if_pos q, e119, Option.bind_some, if_neg (by decide), r1, Option.bind_some]
        by_cases z : Mt C H pv sv (qf c)
        · rw [if_pos z, if_pos z]
          obtain ⟨I', u1, u2⟩ := ih (c + 1) m (n + 1) (if o = -1 then nI c else o) I1 h1 hp1 hs1 (by omega) (by omega)
          refine ⟨I', ?_, r2.trans u2⟩
          unfold lb_109_4 lb_109_5
          rw [if_neg (show ¬ (nI 1, I1).1 = 0 from (by decide : ¬ nI 1 = 0)), ← u1, nI_1, nI_1]
          split <;> rfl
        · rw [if_neg z, if_neg z]
          obtain ⟨I', u1, u2⟩ := ih (c + 1) m n o I1 h1 hp1 hs1 (by omega) (by omega)
          refine ⟨I', ?_, r2.trans u2⟩
          unfold lb_109_5
          rw [if_pos (by rfl), ← u1, nI_1]
      · have e119 : f_119 (nI c) I = some (nI 0) := by
          unfold f_119
          simp only [lits, g3, g2, g1, g0, Option.bind_some, (dl_n h q (by unfold qf; dsimp only; omega) (by unfold qf; dsimp only; omega) (by unfold qf; dsimp only; omega) (by unfold qf; dsimp only; omega)).1, true_or, if_true]
        rw [if_neg q, e119, Option.bind_some, if_pos (by rfl)]
        obtain ⟨I', u1, u2⟩ := ih (c + 1) m n o I h hp hs (by omega) (by omega)
        refine ⟨I', ?_, u2⟩
        unfold lb_109_5
        rw [← u1, nI_1]
theorem bm_st {pv sv : Nat → Int32} (x1 : Int32) (c m n : Nat) (o : Int32) (h : SetP C H N M w K S Y I) (hp : ∀ p, p < C → I 122 p = pv p) (hs : ∀ p, p < C → I 123 p = sv p) (hc : c < 1296) : ∃ I', fx (fun _ _ _ _ _ => none) bd_205_5 (m + 1) x1 (nI n) o (nI c) I = @ite _ (cdv H (qf c)) (brd H (qf c)) (@ite _ (Mt C H pv sv (qf c)) (Mtd C H pv sv (qf c)) (fx (fun _ _ _ _ _ => none) bd_205_5 m x1 (nI (n + 1)) (if o = -1 then nI c else o) (nI (c + 1)) I') (fx (fun _ _ _ _ _ => none) bd_205_5 m x1 (nI n) o (nI (c + 1)) I')) (fx (fun _ _ _ _ _ => none) bd_205_5 m x1 (nI n) o (nI (c + 1)) I') ∧ Keep I I' ∧ I' 97 = I 97 := by
  have c2 := h.ch.2.1
  have hc' : nI c < (1296 : Int32) := (ltN (a := c) (b := 1296) (by omega) (by decide)).mpr hc
  have d216 : nI c / (216 : Int32) = nI (qf c).1 := divN (b := 216) (by omega) (by decide) (by decide)
  have d36 : nI c / (36 : Int32) = nI (c / 36) := divN (b := 36) (by omega) (by decide) (by decide)
  have d6 : nI c / (6 : Int32) = nI (c / 6) := divN (b := 6) (by omega) (by decide) (by decide)
  have r36 : nI (c / 36) - nI (c / 36) / (6 : Int32) * (6 : Int32) = nI (qf c).2.1 := remN (b := 6) (by omega) (by decide) (by decide)
  have r6 : nI (c / 6) - nI (c / 6) / (6 : Int32) * (6 : Int32) = nI (qf c).2.2.1 := remN (b := 6) (by omega) (by decide) (by decide)
  have r1 : nI c - nI (c / 6) * (6 : Int32) = nI (qf c).2.2.2 := by
    have := remN (a := c) (b := 6) (by omega) (by decide) (by decide)
    rw [show nI c / nI 6 = nI (c / 6) from d6] at this
    exact this
  rw [fx_s, bd_205_5, if_pos hc', d216, d36, d6, r36, r6, r1]
  unfold lb_205_7
  by_cases q : cdv H (qf c)
  · obtain ⟨I1, u1, u2, u3⟩ := f204_s h q hp hs
    refine ⟨I1, ?_, u2, u3⟩
    rw [if_pos q, f193_y h q.1 q.2.1 q.2.2.1 q.2.2.2, Option.bind_some, if_neg (by decide), u1, Option.bind_some]
    by_cases z : Mt C H pv sv (qf c)
    · rw [if_pos z, if_pos z, if_neg (show ¬ (nI 1, I1).1 = 0 from (by decide : ¬ nI 1 = 0)), nI_1, nI_1]
      split <;> rfl
    · rw [if_neg z, if_neg z, if_pos (show (nI 0, I1).1 = 0 from rfl), nI_1]
  · refine ⟨I, ?_, Keep.refl I, rfl⟩
    rw [if_neg q, (dl_n h q (by unfold qf; dsimp only; omega) (by unfold qf; dsimp only; omega) (by unfold qf; dsimp only; omega) (by unfold qf; dsimp only; omega)).2, Option.bind_some, if_pos (by rfl), nI_1]
theorem bw_m2 {pv sv : Nat → Int32} (x1 : Int32) : ∀ (j c m n : Nat) (o : Int32) (I : Nat → Nat → Int32), SetP C H N M w K S Y I → (∀ p, p < C → I 122 p = pv p) → (∀ p, p < C → I 123 p = sv p) → c + j = 1296 → 648 ≤ c → j < m → ∃ I', fx (fun _ _ _ _ _ => none) bd_205_5 m x1 (nI n) o (nI c) I = some (if x1 = 0 then nI n else o, I') ∧ Keep I I' ∧ I' 97 = I 97 := by
  intro j
  induction j with
  | zero =>
    intro c m n o I h hp hs e e2 hm
    cases m with
    | zero => omega
    | succ m =>
      obtain rfl : c = 1296 := by omega
      refine ⟨I, ?_, Keep.refl I, rfl⟩
      rw [fx_s, bd_205_5, if_neg (show ¬ nI 1296 < (1296 : Int32) by decide)]
      unfold lb_205_10
      split <;> rfl
  | succ j ih =>
    intro c m n o I h hp hs e e2 hm
    cases m with
    | zero => omega
    | succ m =>
      obtain ⟨I1, r1, r2, r3⟩ := bm_st x1 c m n o h hp hs (by omega)
      have q : ¬ cdv H (qf c) := fun z => by
        have := z.1
        unfold qf at this
        dsimp only at this
        omega
      rw [if_neg q] at r1
      obtain ⟨I', u1, u2, u3⟩ := ih (c + 1) m n o I1 (h.keep r2) (fun p hp' => by rw [r2.1 122 (by decide)]; exact hp p hp') (fun p hp' => by rw [r2.1 123 (by decide)]; exact hs p hp') (by omega) (by omega) (by omega)
      exact ⟨I', by rw [r1, u1], r2.trans u2, u3.trans r3⟩
theorem bw_m {pv sv : Nat → Int32} (x1 : Int32) : ∀ (j c m n : Nat) (o : Int32) (I : Nat → Nat → Int32), SetP C H N M w K S Y I → (∀ p, p < C → I 122 p = pv p) → (∀ p, p < C → I 123 p = sv p) → c + j = 648 → j + 648 < m → ∃ I', fx (fun _ _ _ _ _ => none) bd_205_5 m x1 (nI n) o (nI c) I = some (if x1 = 0 then nI (brf C H pv sv j c n o).1 else (brf C H pv sv j c n o).2, I') ∧ Keep I I' ∧ I' 97 = I 97 := by
  intro j
  induction j with
  | zero =>
    intro c m n o I h hp hs e hm
    obtain rfl : c = 648 := by omega
    exact bw_m2 x1 648 648 m n o I h hp hs rfl (by omega) (by omega)
  | succ j ih =>
    intro c m n o I h hp hs e hm
    cases m with
    | zero => omega
    | succ m =>
      obtain ⟨I1, r1, r2, r3⟩ := bm_st x1 c m n o h hp hs (by omega)
      have h1 := h.keep r2
      have hp1 : ∀ p, p < C → I1 122 p = pv p := fun p hp' => by rw [r2.1 122 (by decide)]; exact hp p hp'
      have hs1 : ∀ p, p < C → I1 123 p = sv p := fun p hp' => by rw [r2.1 123 (by decide)]; exact hs p hp'
      rw [brf]
      by_cases q : cdv H (qf c)
      · rw [if_pos q] at r1 ⊢
        by_cases z : Mt C H pv sv (qf c)
        · rw [if_pos z] at r1 ⊢
          obtain ⟨I', u1, u2, u3⟩ := ih (c + 1) m (n + 1) (if o = -1 then nI c else o) I1 h1 hp1 hs1 (by omega) (by omega)
          exact ⟨I', by rw [r1, u1], r2.trans u2, u3.trans r3⟩
        · rw [if_neg z] at r1 ⊢
          obtain ⟨I', u1, u2, u3⟩ := ih (c + 1) m n o I1 h1 hp1 hs1 (by omega) (by omega)
          exact ⟨I', by rw [r1, u1], r2.trans u2, u3.trans r3⟩
      · rw [if_neg q] at r1 ⊢
        obtain ⟨I', u1, u2, u3⟩ := ih (c + 1) m n o I1 h1 hp1 hs1 (by omega) (by omega)
        exact ⟨I', by rw [r1, u1], r2.trans u2, u3.trans r3⟩
theorem between_s {Z : Nat → Nat → Int32} (hI : Inv Z I) (x1 : Int32) : ∃ q I1 b I2, f_109 x1 I = some (q, I1) ∧ Keep I I1 ∧ f_205 x1 I1 = some (b, I2) ∧ Keep I1 I2 ∧ OKq cdN q b (I2 97 0) := by
  obtain ⟨o, C, H, N, M, w, K, S, Y, L, h1, h2, h3, h4, ⟨A, PH, MH, cd, a1, a2, ⟨b1, b2, b3, b4, b5⟩, a4⟩, h6⟩ := hI
  have good : (x1 = 0 ∨ x1 = 1) → ∃ q I1 b I2, f_109 x1 I = some (q, I1) ∧ Keep I I1 ∧ f_205 x1 I1 = some (b, I2) ∧ Keep I1 I2 ∧ OKq cdN q b (I2 97 0) := by
    intro hx
    obtain ⟨I1, r1, r2⟩ := bw_c (pv := I 88) (sv := I 89) x1 648 0 FU 0 (-1) I h1 (fun p _ => rfl) (fun p _ => rfl) rfl (FU_big (by decide))
    have k0 := (Keep.refl I1).up0 (nI 0)
    have z0 : (up I1 97 0 (nI 0)) 97 0 = nI 0 := up_at
    obtain ⟨I2, t1, t2, t3⟩ := bw_m (pv := I 88) (sv := I 89) x1 648 0 FU 0 (-1) (up I1 97 0 (nI 0)) ((h1.keep r2).keep k0) (fun p hp => by
      rw [up_ne (by decide), r2.1 122 (by decide), (b2 p hp).1, (b2 p hp).2]) (fun p hp => by
      rw [up_ne (by decide), r2.1 123 (by decide), a4 p hp]) rfl (FU_big (by decide))
    refine ⟨.inl (if x1 = 0 then nI (brf C H (I 88) (I 89) 648 0 0 (-1)).1 else (brf C H (I 88) (I 89) 648 0 0 (-1)).2), I1, (if x1 = 0 then nI (brf C H (I 88) (I 89) 648 0 0 (-1)).1 else (brf C H (I 88) (I 89) 648 0 0 (-1)).2), I2, ?_, r2, ?_, k0.trans t2, ?_⟩
    · have e1 : lb_109_1 x1 I = _ := r1
      unfold f_109
      rcases hx with hx | hx
      · rw [if_pos hx, e1]
      · rw [if_neg (by rw [hx]; decide), if_pos hx, e1]
    · have e1 : lb_205_5 x1 (0 : Int32) (-1) (0 : Int32) (up I1 97 0 (nI 0)) = _ := t1
      have e3 : f_205 x1 I1 = lb_205_1 x1 (up I1 97 0 (nI 0)) := by
        unfold f_205
        rcases hx with hx | hx
        · rw [if_pos hx]
          rfl
        · rw [if_neg (by rw [hx]; decide), if_pos hx]
          rfl
      rw [e3]
      unfold lb_205_1 lb_205_3
      rw [show (1 : Int32) = nI 1 from rfl, f132_y z0, Option.bind_some, if_neg (show ¬ (nI 1, up I1 97 0 (nI 0)).1 = 0 from (by decide : ¬ nI 1 = 0))]
      exact e1
    · rw [t3, z0]
      exact ⟨rfl, rfl⟩
  by_cases hx : x1 = 0 ∨ x1 = 1
  · exact good hx
  · have n0 : ¬ x1 = nI 0 := fun e => hx (Or.inl e)
    have n1 : ¬ x1 = nI 1 := fun e => hx (Or.inr e)
    have k0 := (Keep.refl I).up0 (nI 0)
    have z0 : (up I 97 0 (nI 0)) 97 0 = nI 0 := up_at
    refine ⟨.inr 1, I, nI 0, up (up I 97 0 (nI 0)) 97 0 (nI 1), ?_, Keep.refl I, ?_, k0.up0 _, by rw [up_at]; exact ⟨rfl, by decide, by decide⟩⟩
    · unfold f_109
      simp only [lits, n0, n1, if_false]
    · unfold f_205 lb_205_3
      simp only [lits, n0, n1, if_false, f132_n (w := 1) z0 (by decide) (by decide), Option.bind_some, if_true]
end BE
