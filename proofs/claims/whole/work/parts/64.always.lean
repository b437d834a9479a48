/-! always: rounds of a laying, their least common multiple -/
/-- so many times on -/
def it (g : Nat → Nat) : Nat → Nat → Nat
  | 0, p => p
  | n + 1, p => g (it g n p)
/-- a row that permutes the first C -/
def Pm (C : Nat) (g : Nat → Nat) : Prop := (∀ p, p < C → g p < C) ∧ ∀ p q, p < C → q < C → g p = g q → p = q
section PM
variable {C : Nat} {g : Nat → Nat}
theorem it_lt (h : Pm C g) {p : Nat} (hp : p < C) : ∀ n, it g n p < C
  | 0 => hp
  | n + 1 => h.1 _ (it_lt h hp n)
theorem it_add (m p : Nat) : ∀ n, it g (n + m) p = it g n (it g m p)
  | 0 => by rw [Nat.zero_add]; rfl
  | n + 1 => by rw [show n + 1 + m = (n + m) + 1 by omega, it, it, it_add m p n]
theorem it_cancel (h : Pm C g) {p d : Nat} (hp : p < C) : ∀ i, it g (i + d) p = it g i p → it g d p = p
  | 0, e => by rw [Nat.zero_add] at e; exact e
  | i + 1, e => it_cancel h hp i (by
    rw [show i + 1 + d = (i + d) + 1 by omega, it, it] at e
    exact h.2 _ _ (it_lt h hp _) (it_lt h hp _) e)
theorem min_ex {P : Nat → Prop} (n : Nat) (h : P n) : ∃ m, m ≤ n ∧ P m ∧ ∀ k, k < m → ¬ P k := by
  induction n using Nat.strongRecOn with
  | _ n ih =>
    by_cases w : ∃ k, k < n ∧ P k
    · obtain ⟨k, hk, pk⟩ := w
      obtain ⟨m, h1, h2, h3⟩ := ih k hk pk
      exact ⟨m, by omega, h2, h3⟩
    · exact ⟨n, Nat.le_refl n, h, fun k hk pk => w ⟨k, hk, pk⟩⟩
/-- the length of a round -/
def Per (g : Nat → Nat) (p n : Nat) : Prop := 1 ≤ n ∧ it g n p = p ∧ ∀ m, 1 ≤ m → m < n → it g m p ≠ p
theorem per_ex (h : Pm C g) {p : Nat} (hp : p < C) : ∃ n, n ≤ C ∧ Per g p n := by
  have ex : ∃ n, 1 ≤ n ∧ n ≤ C ∧ it g n p = p := by
    by_cases w : ∀ i j, i < C → j < C → it g i p = it g j p → i = j
    · obtain ⟨i, hi, e⟩ := php C (fun i => it g i p) (fun i _ => it_lt h hp i) w (it g C p) (it_lt h hp C)
      refine ⟨C - i, by omega, by omega, it_cancel h hp i ?_⟩
      rw [show i + (C - i) = C by omega]
      exact e.symm
    · have : ∃ i j, i < C ∧ j < C ∧ it g i p = it g j p ∧ i ≠ j := by
        refine Classical.byContradiction fun z => w fun i j hi hj e => Classical.byContradiction fun ne => z ⟨i, j, hi, hj, e, ne⟩
      obtain ⟨i, j, hi, hj, e, ne⟩ := this
      rcases Nat.lt_or_gt_of_ne ne with l | l
      · refine ⟨j - i, by omega, by omega, it_cancel h hp i ?_⟩
        rw [show i + (j - i) = j by omega]
        exact e.symm
      · refine ⟨i - j, by omega, by omega, it_cancel h hp j ?_⟩
        rw [show j + (i - j) = i by omega]
        exact e
  obtain ⟨n, h1, h2, h3⟩ := ex
  obtain ⟨m, m1, m2, m3⟩ := min_ex (P := fun n => 1 ≤ n ∧ it g n p = p) n ⟨h1, h3⟩
  exact ⟨m, by omega, m2.1, m2.2, fun k k1 k2 k3 => m3 k k2 ⟨k1, k3⟩⟩
theorem per_it (h : Pm C g) {p n : Nat} (hp : p < C) (hn : Per g p n) (i : Nat) : Per g (it g i p) n := by
  obtain ⟨a, b, c⟩ := hn
  refine ⟨a, ?_, fun m m1 m2 e => ?_⟩
  · rw [← it_add, Nat.add_comm, it_add, b]
  · rw [← it_add, Nat.add_comm] at e
    exact c m m1 m2 (it_cancel h hp i e)
theorem per_u {p n m : Nat} (h1 : Per g p n) (h2 : Per g p m) : n = m := by
  rcases Nat.lt_trichotomy n m with l | l | l
  · exact absurd h1.2.1 (h2.2.2 n h1.1 l)
  · exact l
  · exact absurd h2.2.1 (h1.2.2 m h2.1 l)
/-- a round as bits -/
def RB (g : Nat → Nat) (p : Nat) : Nat → Nat
  | 0 => 0
  | i + 1 => RB g p i ||| 2 ^ it g i p
theorem RB_bit (p x : Nat) : ∀ n, (RB g p n).testBit x = true ↔ ∃ i, i < n ∧ it g i p = x
  | 0 => by
    rw [RB, Nat.zero_testBit]
    constructor
    · intro h; cases h
    · rintro ⟨i, hi, _⟩; omega
  | n + 1 => by
    rw [RB, bit_or, Bool.or_eq_true, RB_bit p x n, decide_eq_true_iff]
    constructor
    · rintro (⟨i, hi, e⟩ | e)
      · exact ⟨i, by omega, e⟩
      · exact ⟨n, by omega, e⟩
    · rintro ⟨i, hi, e⟩
      by_cases w : i = n
      · rw [w] at e
        exact Or.inr e
      · exact Or.inl ⟨i, by omega, e⟩
theorem RB_lt (h : Pm C g) (hC : C ≤ 60) {p : Nat} (hp : p < C) : ∀ n, RB g p n < 2 ^ 60
  | 0 => by rw [RB]; decide
  | n + 1 => by
    have := RB_lt h hC hp n
    have l := it_lt h hp n
    exact Nat.or_lt_two_pow this (Nat.pow_lt_pow_right (by decide) (by omega))
theorem it_ne (h : Pm C g) {p n i j : Nat} (hp : p < C) (hn : Per g p n) (hi : i < j) (hj : j < n) : it g i p ≠ it g j p := by
  intro e
  refine hn.2.2 (j - i) (by omega) (by omega) (it_cancel h hp i ?_)
  rw [show i + (j - i) = j by omega]
  exact e.symm
/-- a round's bits beside what has none of them -/
theorem RB_pc (h : Pm C g) (hC : C ≤ 60) {p n s : Nat} (hp : p < C) (hn : Per g p n) (hs : ∀ i, i < n → s.testBit (it g i p) = false) : ∀ m, m ≤ n → pc 64 (s ||| RB g p m) = pc 64 s + m
  | 0, _ => by rw [RB, Nat.or_zero, Nat.add_zero]
  | m + 1, hm => by
    have ih := RB_pc h hC hp hn hs m (by omega)
    have l := it_lt h hp m
    rw [RB, ← Nat.or_assoc, pc_or (by omega), ih, Nat.add_assoc]
    rw [Nat.testBit_or, hs m (by omega), Bool.false_or]
    cases w : (RB g p m).testBit (it g m p) with
    | false => rfl
    | true =>
      obtain ⟨i, hi, e⟩ := (RB_bit p _ m).mp w
      exact absurd e (it_ne h hp hn hi (by omega))
theorem pc_le : ∀ (k K n : Nat), n < 2 ^ k → pc K n ≤ k
  | _, 0, _, _ => Nat.zero_le _
  | 0, K + 1, n, h => by
    obtain rfl : n = 0 := by
      rw [Nat.pow_zero] at h
      omega
    rw [pc_zero]
    omega
  | k + 1, K + 1, n, h => by
    rw [Nat.pow_succ] at h
    have := pc_le k K (n / 2) (by omega)
    rw [pc]
    omega
end PM
theorem cmp0 {n : Nat} (hn : n < 9223372036854775808) : (0 < lg_cmp (lN n) (0 : Int64)) ↔ 0 < n := by
  have z : (0 : Int64) = lN 0 := rfl
  unfold lg_cmp
  rw [z]
  by_cases q : 0 < n
  · rw [if_pos ((pk_lLT (by decide) hn).mpr q)]
    exact ⟨fun _ => q, fun _ => by decide⟩
  · obtain rfl : n = 0 := by omega
    rw [if_neg (Int64.lt_irrefl), if_pos rfl]
    exact ⟨fun h => absurd h (by decide), fun h => absurd h (by decide)⟩
theorem cmp00 {n : Nat} (hn : n < 9223372036854775808) : (lg_cmp (lN n) (0 : Int64) = 0) ↔ n = 0 := by
  have z : (0 : Int64) = lN 0 := rfl
  unfold lg_cmp
  rw [z]
  by_cases q : 0 < n
  · rw [if_pos ((pk_lLT (by decide) hn).mpr q)]
    exact ⟨fun h => absurd h (by decide), fun h => by omega⟩
  · obtain rfl : n = 0 := by omega
    rw [if_neg (Int64.lt_irrefl), if_pos rfl]
    exact ⟨fun _ => rfl, fun _ => rfl⟩
theorem gcd_in {a b : Nat} (ha : a < 2305843009213693952) (hb : b ≤ 60) (ha0 : 0 < a) : ∀ (j i m x y : Nat), i + j = 60 → j < m → y ≤ j → x < 2305843009213693952 → 0 < x → Nat.gcd x y = Nat.gcd a b → fx (fun _ _ _ _ _ => none) bd_124_1 m (lN a) (lN b) (lN x) (lN y) (nI i) = lb_124_2 (lN a) (lN b) (lN (Nat.gcd a b)) := by
  intro j
  induction j with
  | zero =>
    intro i m x y e hm hy hx hx0 hg
    cases m with
    | zero => omega
    | succ m =>
      obtain rfl : i = 60 := by omega
      obtain rfl : y = 0 := by omega
      rw [Nat.gcd_zero_right] at hg
      rw [fx_s, bd_124_1, hg, if_neg (show ¬ nI 60 < (60 : Int32) by decide)]
  | succ j ih =>
    intro i m x y e hm hy hx hx0 hg
    cases m with
    | zero => omega
    | succ m =>
      rw [fx_s, bd_124_1, if_pos (show nI i < (60 : Int32) from (ltN (b := 60) (by omega) (by decide)).mpr (by omega))]
      by_cases q : 0 < y
      · have r : lN x - lN x / lN y * lN y = lN (x % y) := pk_lRem (by omega) q (by omega)
        have n0 : ¬ lN y = 0 := by
          intro z
          have : lN y = lN 0 := z
          rw [pk_lEQ (by omega) (by decide)] at this
          omega
        have ml := Nat.mod_lt x q
        rw [if_pos ((cmp0 (by omega)).mpr q), if_neg n0, r, nI_1]
        exact ih (i + 1) m y (x % y) (by omega) (by omega) (by omega) (by omega) q (by rw [← hg, Nat.gcd_comm x y, Nat.gcd_rec y x, Nat.gcd_comm])
      · obtain rfl : y = 0 := by omega
        rw [Nat.gcd_zero_right] at hg
        rw [if_neg (fun z => absurd ((cmp0 (n := 0) (by decide)).mp z) (by decide)), hg]
theorem f124_s {a b : Nat} (ha : a < 1152921504606846977) (hb : b ≤ 60) (ha0 : 0 < a) (hb0 : 0 < b) : f_124 (lN a) (lN b) = some (lN (Nat.lcm a b)) := by
  have hg := Nat.gcd_pos_of_pos_left b ha0
  have gl : Nat.gcd a b ≤ a := Nat.gcd_le_left b ha0
  have e : f_124 (lN a) (lN b) = lb_124_2 (lN a) (lN b) (lN (Nat.gcd a b)) := gcd_in (by omega) hb ha0 60 0 FU a b rfl (FU_big (by decide)) (by omega) (by omega) ha0 rfl
  rw [e]
  unfold lb_124_2 lb_124_4
  have n0 : ¬ lN (Nat.gcd a b) = 0 := by
    intro z
    have : lN (Nat.gcd a b) = lN 0 := z
    rw [pk_lEQ (by omega) (by decide)] at this
    omega
  rw [if_pos ((cmp0 (by omega)).mpr hg), if_neg n0, pk_lDiv (by omega) hg (by omega), lN_mul]
  congr 2
  rw [Nat.lcm, Nat.mul_comm a b, Nat.mul_div_assoc b (Nat.gcd_dvd_left a b), Nat.mul_comm]
/-- the model adds until it is a multiple -/
theorem lcm_in {v n : Nat} (hv0 : 0 < v) (hn : n ≤ 60) (hn0 : 0 < n) (hL : Nat.lcm v n < 2305843009213693952) (c2 : Int64 → Int32 → (Nat → Nat → Int32) → Option (Int64 × (Nat → Nat → Int32))) (x7 : Int32) (I : Nat → Nat → Int32) : ∀ (j k m : Nat), k + j = Nat.lcm v n / v → 0 < k → j < m → fx (fun _ _ _ _ _ => none) (bd_194_5 c2) m (lN (k * v)) x7 (nI n) (lN v) I = c2 (lN (Nat.lcm v n)) (x7 + 1) I := by
  have dv := Nat.dvd_lcm_left v n
  have dn := Nat.dvd_lcm_right v n
  have el : Nat.lcm v n / v * v = Nat.lcm v n := Nat.div_mul_cancel dv
  have nl : (nI n).toInt64 = lN n := nI_l (by omega)
  have n0 : ¬ lN n = 0 := by
    intro z
    have : lN n = lN 0 := z
    rw [pk_lEQ (by omega) (by decide)] at this
    omega
  have key : ∀ k m, 0 < k → k ≤ Nat.lcm v n / v → fx (fun _ _ _ _ _ => none) (bd_194_5 c2) (m + 1) (lN (k * v)) x7 (nI n) (lN v) I = if n ∣ k * v then c2 (lN (k * v)) (x7 + 1) I else fx (fun _ _ _ _ _ => none) (bd_194_5 c2) m (lN ((k + 1) * v)) x7 (nI n) (lN v) I := by
    intro k m hk hk2
    have kl : k * v ≤ Nat.lcm v n := by
      rw [← el]
      exact Nat.mul_le_mul_right v hk2
    have r : lN (k * v) - lN (k * v) / lN n * lN n = lN (k * v % n) := pk_lRem (by omega) hn0 (by omega)
    have ml := Nat.mod_lt (k * v) hn0
    rw [fx_s, bd_194_5, nl, if_neg n0, r, lN_add, ← Nat.succ_mul]
    by_cases q : n ∣ k * v
    · rw [if_pos q, if_pos ((cmp00 (by omega)).mpr (Nat.mod_eq_zero_of_dvd q))]
    · rw [if_neg q, if_neg (fun z => q (Nat.dvd_of_mod_eq_zero ((cmp00 (by omega)).mp z)))]
  intro j
  induction j with
  | zero =>
    intro k m e hk hm
    cases m with
    | zero => omega
    | succ m =>
      have ek : k * v = Nat.lcm v n := by rw [← el, show k = Nat.lcm v n / v by omega]
      rw [key k m hk (by omega), ek, if_pos dn]
  | succ j ih =>
    intro k m e hk hm
    cases m with
    | zero => omega
    | succ m =>
      rw [key k m hk (by omega)]
      by_cases q : n ∣ k * v
      · have := Nat.le_of_dvd (Nat.mul_pos hk hv0) (Nat.lcm_dvd (Nat.dvd_mul_left v k) q)
        have h2 : k * v < Nat.lcm v n / v * v := Nat.mul_lt_mul_of_pos_right (by omega) hv0
        omega
      · rw [if_neg q]
        exact ih (k + 1) m (by omega) (by omega) (by omega)
/-- the model counts a round -/
theorem per_m {C n p v : Nat} {g : Nat → Nat} {I : Nat → Nat → Int32} (hC : C ≤ 60) (hg : Pm C g) (hf : ∀ x, x < C → f_170 (nI x) I = some (nI (g x))) (hp : p < C) (hn : Per g p n) (hnC : n ≤ C) (c2 : Int64 → Int32 → (Nat → Nat → Int32) → Option (Int64 × (Nat → Nat → Int32))) : ∀ (j i m : Nat), i + j = n → 0 < i → j < m → fx (fun _ _ _ _ _ => none) (bd_194_3 c2) m (lN v) (nI p) (nI i) (nI (it g i p)) I = lb_194_5 c2 (lN v) (nI p) (nI n) (lN v) I := by
  intro j
  induction j with
  | zero =>
    intro i m e hi hm
    cases m with
    | zero => omega
    | succ m =>
      obtain rfl : i = n := by omega
      rw [fx_s, bd_194_3, hn.2.1, if_pos rfl]
  | succ j ih =>
    intro i m e hi hm
    cases m with
    | zero => omega
    | succ m =>
      have l := it_lt hg hp i
      have ne := hn.2.2 i hi (by omega)
      rw [fx_s, bd_194_3, if_neg (fun z => ne ((eqN (by omega) (by omega)).mp z)), hf _ l, Option.bind_some, nI_1]
      exact ih (i + 1) m (by omega) (by omega) (by omega)
/-- the class gathers a round -/
theorem per_c {C n p : Nat} {g : Nat → Nat} {I : Nat → Nat → Int32} (hC : C ≤ 60) (hg : Pm C g) (hf : ∀ x, x < C → f_10 (nI x) I = some (nI (g x))) (hp : p < C) (hn : Per g p n) (hnC : n ≤ C) : f_118 (nI p) I = some (lN (RB g p n)) := by
  have main : ∀ (j i m : Nat), i + 1 + j = n → j < m → fx (fun _ _ _ _ _ => none) bd_118_1 m (nI p) (lN (RB g p (i + 1))) (nI (it g (i + 1) p)) (nI i) I = some (lN (RB g p n)) := by
    intro j
    induction j with
    | zero =>
      intro i m e hm
      cases m with
      | zero => omega
      | succ m =>
        obtain rfl : i + 1 = n := by omega
        rw [fx_s, bd_118_1, hn.2.1, if_pos (show nI i < (60 : Int32) from (ltN (b := 60) (by omega) (by decide)).mpr (by omega)), if_pos rfl]
        rfl
    | succ j ih =>
      intro i m e hm
      cases m with
      | zero => omega
      | succ m =>
        have l := it_lt hg hp (i + 1)
        have ne := hn.2.2 (i + 1) (by omega) (by omega)
        have o := (orL (q := it g (i + 1) p) (RB_lt hg hC hp (i + 1)) (by omega)).1
        rw [fx_s, bd_118_1, if_pos (show nI i < (60 : Int32) from (ltN (b := 60) (by omega) (by decide)).mpr (by omega)), if_neg (fun z => ne ((eqN (by omega) (by omega)).mp z)), hf _ l, Option.bind_some, nI_1, o]
        exact ih (i + 1) m (by omega) (by omega)
  have s1 : (1 : Int64) <<< ((nI p).toInt64 &&& 63) = lN (RB g p 1) := by
    rw [shl1 (by omega), RB, RB, Nat.zero_or]
    rfl
  unfold f_118
  rw [hf p hp, Option.bind_some, s1]
  exact main (n - 1) 0 FU (by have := hn.1; omega) (FU_big (by omega))
/-- what both hold on the way -/
theorem alw {C : Nat} {g : Nat → Nat} {I J : Nat → Nat → Int32} (hC : C ≤ 60) (hg : Pm C g) (hf : ∀ x, x < C → f_10 (nI x) I = some (nI (g x))) (h4 : I 79 4 = nI C) (hf2 : ∀ x, x < C → f_170 (nI x) J = some (nI (g x))) (h1 : J 97 1 = nI C) : ∀ (j p m m2 v s : Nat), p + j = C → j < m → j < m2 → 0 < v → s < 2 ^ 60 → v ≤ 2 ^ pc 64 s → (∀ x, x < C → s.testBit x = true → s.testBit (g x) = true ∧ ∀ n, Per g x n → n ∣ v) → ∃ r, fx (fun _ _ _ _ => none) bd_100_2 m (lN v) (lN s) (nI p) I = some (.inl (lN r), I) ∧ fx (fun _ _ _ => none) bd_194_2 m2 (lN v) (nI p) J = some (lN r, J) := by
  intro j
  induction j with
  | zero =>
    intro p m m2 v s e hm hm2 hv hs hb hx
    cases m with
    | zero => omega
    | succ m =>
      cases m2 with
      | zero => omega
      | succ m2 =>
        obtain rfl : p = C := by omega
        refine ⟨v, ?_, ?_⟩
        · rw [fx_s, bd_100_2]
          simp (disch := omega) only [h4, ltN, Nat.lt_irrefl, if_false]
        · rw [fx_s, bd_194_2]
          simp (disch := omega) only [h1, ltN, Nat.lt_irrefl, if_false]
  | succ j ih =>
    intro p m m2 v s e hm hm2 hv hs hb hx
    cases m with
    | zero => omega
    | succ m =>
      cases m2 with
      | zero => omega
      | succ m2 =>
        have hp : p < C := by omega
        obtain ⟨n, hnC, hn⟩ := per_ex hg hp
        have n1 := hn.1
        have pcs := pc_le 60 64 s hs
        have p2 : 2 ^ pc 64 s ≤ 2 ^ 60 := Nat.pow_le_pow_right (by decide) pcs
        have bit := wb_bit (n := s) (k := p) (by omega) (by omega)
        have lp : nI p < nI C := (ltN (by omega) (by omega)).mpr hp
        have mstep : Nat.lcm v n < 2305843009213693952 → fx (fun _ _ _ => none) bd_194_2 (m2 + 1) (lN v) (nI p) J = fx (fun _ _ _ => none) bd_194_2 m2 (lN (Nat.lcm v n)) (nI (p + 1)) J := by
          intro hL
          have lv := Nat.le_of_dvd (Nat.lcm_pos hv n1) (Nat.dvd_lcm_left v n)
          have k1 : 1 ≤ Nat.lcm v n / v := (Nat.one_le_div_iff hv).mpr lv
          have kn : Nat.lcm v n / v ≤ n := by
            have : Nat.lcm v n ≤ v * n := Nat.le_of_dvd (Nat.mul_pos hv n1) (Nat.lcm_dvd (Nat.dvd_mul_right v n) (Nat.dvd_mul_left n v))
            exact Nat.div_le_of_le_mul this
          have a1 := per_m (v := v) hC hg hf2 hp hn hnC (fx (fun _ _ _ => none) bd_194_2 m2) (n - 1) 1 FU (by omega) (by omega) (FU_big (by omega))
          have a2 := lcm_in hv (by omega) n1 hL (fx (fun _ _ _ => none) bd_194_2 m2) (nI p) J (Nat.lcm v n / v - 1) 1 FU (by omega) (by omega) (FU_big (by omega))
          rw [Nat.one_mul] at a2
          rw [fx_s, bd_194_2, h1, if_pos lp, hf2 p hp, Option.bind_some]
          have b1 : lb_194_3 (fx (fun _ _ _ => none) bd_194_2 m2) (lN v) (nI p) 1 (nI (g p)) J = _ := a1
          rw [b1]
          have b2 : lb_194_5 (fx (fun _ _ _ => none) bd_194_2 m2) (lN v) (nI p) (nI n) (lN v) J = _ := a2
          rw [b2, nI_1]
        by_cases q : s.testBit p = true
        · have dn := (hx p hp q).2 n hn
          have lc : Nat.lcm v n = v := Nat.lcm_eq_left dn
          obtain ⟨r, r1, r2⟩ := ih (p + 1) m m2 v s (by omega) (by omega) (by omega) hv hs hb hx
          refine ⟨r, ?_, ?_⟩
          · have nb : s / 2 ^ p % 2 = 1 := by
              rw [Nat.testBit_eq_decide_div_mod_eq] at q
              exact of_decide_eq_true q
            rw [fx_s, bd_100_2, h4, if_pos lp, bit, nb, if_neg (fun z => absurd ((cmp00 (n := 1) (by decide)).mp z) (by decide))]
            unfold lb_100_3
            rw [nI_1]
            exact r1
          · rw [mstep (by rw [lc]; omega), lc]
            exact r2
        · have q0 : s.testBit p = false := by
            cases h : s.testBit p with
            | false => rfl
            | true => exact absurd h q
          have nb : s / 2 ^ p % 2 = 0 := by
            rw [Nat.testBit_eq_decide_div_mod_eq] at q0
            have := of_decide_eq_false q0
            omega
          have clo : ∀ d x, x < C → s.testBit x = true → s.testBit (it g d x) = true := by
            intro d
            induction d with
            | zero => intro x _ h; exact h
            | succ d ihd =>
              intro x hx' h
              exact (hx _ (it_lt hg hx' d) (ihd x hx' h)).1
          have dis : ∀ i, i < n → s.testBit (it g i p) = false := by
            intro i hi
            cases h : s.testBit (it g i p) with
            | false => rfl
            | true =>
              have := clo (n - i) _ (it_lt hg hp i) h
              rw [← it_add, show n - i + i = n by omega, hn.2.1] at this
              exact absurd this q
          have pcr := RB_pc hg hC hp hn dis n (Nat.le_refl n)
          have pc0 := RB_pc (s := 0) hg hC hp hn (fun i _ => Nat.zero_testBit _) n (Nat.le_refl n)
          rw [Nat.zero_or, pc_zero, Nat.zero_add] at pc0
          have rl := RB_lt hg hC hp n
          have sl : s ||| RB g p n < 2 ^ 60 := Nat.or_lt_two_pow hs rl
          have pcs2 := pc_le 60 64 _ sl
          have ll : Nat.lcm v n ≤ v * n := Nat.le_of_dvd (Nat.mul_pos hv n1) (Nat.lcm_dvd (Nat.dvd_mul_right v n) (Nat.dvd_mul_left n v))
          have nb2 : Nat.lcm v n ≤ 2 ^ pc 64 (s ||| RB g p n) := by
            rw [pcr, Nat.pow_add]
            exact Nat.le_trans ll (Nat.mul_le_mul hb (Nat.le_of_lt Nat.lt_two_pow_self))
          have p3 : 2 ^ pc 64 (s ||| RB g p n) ≤ 2 ^ 60 := Nat.pow_le_pow_right (by decide) pcs2
          obtain ⟨r, r1, r2⟩ := ih (p + 1) m m2 (Nat.lcm v n) (s ||| RB g p n) (by omega) (by omega) (by omega) (Nat.lcm_pos hv n1) sl nb2 (by
            intro x hx' hb'
            rw [Nat.testBit_or, Bool.or_eq_true] at hb'
            rcases hb' with hb' | hb'
            · obtain ⟨u1, u2⟩ := hx x hx' hb'
              refine ⟨by rw [Nat.testBit_or, u1, Bool.true_or], fun k hk => Nat.dvd_trans (u2 k hk) (Nat.dvd_lcm_left v n)⟩
            · obtain ⟨i, hi, e⟩ := (RB_bit p x n).mp hb'
              refine ⟨?_, fun k hk => ?_⟩
              · rw [Nat.testBit_or, Bool.or_eq_true]
                right
                rw [RB_bit]
                by_cases w : i + 1 = n
                · refine ⟨0, by omega, ?_⟩
                  rw [← e]
                  have : it g (i + 1) p = p := by rw [w]; exact hn.2.1
                  exact this.symm
                · exact ⟨i + 1, by omega, by rw [it, e]⟩
              · rw [← e] at hk
                rw [per_u hk (per_it hg hp hn i)]
                exact Nat.dvd_lcm_right v n)
          refine ⟨r, ?_, ?_⟩
          · rw [fx_s, bd_100_2, h4, if_pos lp, bit, nb, if_pos ((cmp00 (n := 0) (by decide)).mpr rfl), per_c hC hg hf hp hn hnC, Option.bind_some, f210_s (by omega), pc0, Option.bind_some, nI_l (by omega), f124_s (by omega) (by omega) hv n1, Option.bind_some, wb_or (by omega) (by omega)]
            unfold lb_100_3
            rw [nI_1]
            exact r1
          · rw [mstep (by omega)]
            exact r2
section AL
variable {Z I : Nat → Nat → Int32}
theorem always_s {C H N M w : Nat} {K S : Nat → Nat} {Y : Nat → Nat → Nat} (h : SetP C H N M w K S Y I) (x1 x2 x3 x4 : Int32) : ∃ q I1 b I2, f_100 x1 x2 x3 x4 I = some (q, I1) ∧ Keep I I1 ∧ f_194 x1 x2 x3 x4 I1 = some (b, I2) ∧ Keep I1 I2 ∧ ((q = .inl b ∧ I2 97 0 = nI 0) ∨ (q = .inr 0 ∧ I2 97 0 = nI 1)) := by
  have hC := h.ch
  obtain ⟨c1, c2, c3, c4⟩ := h.ch
  rcases deal_or h x1 x2 x3 x4 with ⟨k, s, l, a, hk, hs, hl, ha, rfl, rfl, rfl, rfl⟩ | ⟨d1, d2⟩
  · have hg : Pm C (np C H k s l a a) := ⟨fun p hp => np_lt c1 c3 ha ha hp, fun p q hp hq e => np_inj c1 c3 ha ha hp hq e⟩
    obtain ⟨I1, r1, r2, r3⟩ := f3_s (k := k) (s := s) h.dt
    have k1 := Keep.f3 r3 h.dt r2
    obtain ⟨I2, t1, t2, t3, t4⟩ := f4_s hC hk ha ha hl r2
    have k2 := k1.trans (Keep.fr t4 (by decide))
    have h2 := h.keep k2
    have h2' := h2.up0 (nI 0)
    have z0 : (up I2 97 0 (nI 0)) 97 0 = nI 0 := up_at
    obtain ⟨J1, u1, u2, u3⟩ := f167_s hC hk hs h2'.mc
    obtain ⟨J2, v1, v2, v3, v4⟩ := f168_s hC ha ha hl u2
    have kj : Keep (up I2 97 0 (nI 0)) J2 := (Keep.fr u3 (by decide)).trans (Keep.fr v4 (by decide))
    have j97 : J2 97 = (up I2 97 0 (nI 0)) 97 := by rw [v4 97 (by decide), u3 97 (by decide)]
    obtain ⟨r, q1, q2⟩ := alw c4 hg (fun x hx => f10_s hC hk hs t3 t2 hx) h2.i4 (fun x hx => f170_s hC v3 v2 hx) (by rw [j97]; exact h2'.m1) C 0 FU FU 1 0 (by omega) (FU_big (by omega)) (FU_big (by omega)) (by omega) (by decide) (by rw [pc_zero]; decide) (fun x _ hb => by rw [Nat.zero_testBit] at hb; cases hb)
    refine ⟨.inl (lN r), I2, lN r, J2, ?_, k2, ?_, ((Keep.refl I2).up0 _).trans kj, Or.inl ⟨rfl, by rw [j97, z0]⟩⟩
    · unfold f_100
      simp only [lits, f58_y h hk hs hl ha, Option.bind_some, e10, if_false, r1, t1]
      exact q1
    · unfold f_194
      simp only [lits, f193_y h2' hk hs hl ha, f132_y z0, Option.bind_some, e10, if_false, u1, v1]
      exact q2
  · have k0 := (Keep.refl I).up0 (nI 0)
    have z0 : (up I 97 0 (nI 0)) 97 0 = nI 0 := up_at
    have d2' : f_193 x1 x2 x3 x4 (up I 97 0 (nI 0)) = some (nI 0) := by
      unfold f_193 at d2 ⊢
      rw [h.m2] at d2
      rw [(h.up0 (nI 0)).m2]
      exact d2
    refine ⟨.inr 0, I, 0, up (up I 97 0 (nI 0)) 97 0 (nI 1), ?_, Keep.refl I, ?_, k0.up0 _, Or.inr ⟨rfl, up_at⟩⟩
    · unfold f_100
      simp only [lits, d1, Option.bind_some, if_true]
    · unfold f_194
      simp only [lits, d2', f132_n (w := 1) z0 (by decide) (by decide), Option.bind_some, if_true]
end AL
