/-! what may wait, how high the values pile up -/
def hgt : List Nat → Nat
  | [] => 0
  | k :: Ws => if k = 16 then 0 else hgt Ws + 1
def bng : List Nat → Nat
  | [] => 0
  | k :: Ws => if k = 16 then 0 else bng Ws + if k = 9 then 0 else 1
def dpt : List Nat → Nat
  | [] => 0
  | k :: Ws => dpt Ws + if k = 16 then 1 else 0
def bns : List Nat → Nat
  | [] => 0
  | k :: Ws => bns Ws + if k = 16 ∨ k = 9 then 0 else 1
def hb (p : Nat) : Nat := [0, 1, 2, 8, 9, 10, 11].getD p 0
def hb2 (p : Nat) : Nat := [0, 1, 2, 2, 3, 4, 5].getD p 0
def wf : List Nat → Prop
  | [] => True
  | k :: Ws => 7 ≤ k ∧ k < 17 ∧ hgt (k :: Ws) ≤ hb (prk k) ∧ bng (k :: Ws) ≤ hb2 (prk k) ∧ wf Ws
theorem hbs : ∀ p, p < 7 → hb p ≤ 11 ∧ hb2 p ≤ 5 := by decide
theorem wf.vld : ∀ {Ws : List Nat}, wf Ws → vld Ws
  | [], _ => fun k hk => absurd hk List.not_mem_nil
  | k :: Ws, h => fun x hx => by
    rcases List.mem_cons.mp hx with rfl | hx
    · exact ⟨h.1, h.2.1⟩
    · exact h.2.2.2.2.vld x hx
theorem wf.top : ∀ {Ws : List Nat}, wf Ws → hgt Ws ≤ 11 ∧ bng Ws ≤ 5
  | [], _ => ⟨Nat.zero_le _, Nat.zero_le _⟩
  | k :: Ws, h => by
    obtain ⟨h1, h2, h3, h4, _⟩ := h
    have p := (ccs k h2 h1).2.1
    obtain ⟨b1, b2⟩ := hbs (prk k) p
    omega
theorem wf.len : ∀ {Ws : List Nat}, wf Ws → Ws.length ≤ 12 * dpt Ws + hgt Ws ∧ bns Ws ≤ 5 * dpt Ws + bng Ws
  | [], _ => ⟨Nat.zero_le _, Nat.zero_le _⟩
  | k :: Ws, h => by
    have w := h.2.2.2.2
    obtain ⟨i1, i2⟩ := w.len
    obtain ⟨t1, t2⟩ := w.top
    rw [List.length_cons, dpt, bns, hgt, bng]
    by_cases q : k = 16
    · rw [if_pos q, if_pos q, if_pos q, if_pos (Or.inl q)]
      omega
    · rw [if_neg q, if_neg q, if_neg q]
      by_cases q9 : k = 9
      · rw [if_pos (Or.inr q9), if_pos q9]
        omega
      · rw [if_neg (fun z => z.elim q q9), if_neg q9]
        omega
/-- what stays behind a flush -/
theorem fls_wf {p : Nat} : ∀ {Ws : List Nat}, wf Ws → wf (fls p Ws).2
  | [], _ => trivial
  | k :: Ws, h => by
    rw [fls]
    split
    · exact h
    · exact fls_wf h.2.2.2.2
theorem fls_dpt {p : Nat} (hp : 1 ≤ p) : ∀ Ws, dpt (fls p Ws).2 = dpt Ws ∧ bns Ws = bns (fls p Ws).1 + bns (fls p Ws).2 ∧ ∀ k, k ∈ (fls p Ws).1 → k ≠ 16
  | [] => ⟨rfl, rfl, fun k hk => absurd hk List.not_mem_nil⟩
  | k :: Ws => by
    obtain ⟨i1, i2, i3⟩ := fls_dpt hp Ws
    rw [fls]
    by_cases q : prk k < p
    · rw [if_pos q]
      exact ⟨rfl, by rw [bns, bns]; omega, fun x hx => absurd hx List.not_mem_nil⟩
    · rw [if_neg q]
      have n16 : k ≠ 16 := fun z => q (by rw [z]; exact hp)
      refine ⟨?_, ?_, fun x hx => ?_⟩
      · rw [dpt, if_neg n16, i1]; rfl
      · dsimp only
        rw [bns, bns, i2]
        omega
      · rcases List.mem_cons.mp hx with rfl | hx
        · exact n16
        · exact i3 x hx
theorem fls_low {p : Nat} (hp : 1 ≤ p) (hp7 : p < 8) : ∀ {Ws : List Nat}, wf Ws → hgt (fls p Ws).2 ≤ hb (p - 1) ∧ bng (fls p Ws).2 ≤ hb2 (p - 1)
  | [], _ => ⟨Nat.zero_le _, Nat.zero_le _⟩
  | k :: Ws, h => by
    rw [fls]
    by_cases q : prk k < p
    · rw [if_pos q]
      have mono : ∀ q, q < 8 → ∀ p, p < 7 → p < q → hb p ≤ hb (q - 1) ∧ hb2 p ≤ hb2 (q - 1) := by decide
      obtain ⟨h1, h2, h3, h4, _⟩ := h
      have p7 := (ccs k h2 h1).2.1
      obtain ⟨m1, m2⟩ := mono p hp7 (prk k) p7 q
      exact ⟨Nat.le_trans h3 m1, Nat.le_trans h4 m2⟩
    · rw [if_neg q]
      exact fls_low hp hp7 h.2.2.2.2
/-- one that joins goes onto the pile -/
theorem wf.push {k : Nat} {Ws : List Nat} (h : wf Ws) (h7 : 7 ≤ k) (h15 : k < 16) (h9 : k ≠ 9) : wf (k :: (fls (prk k) Ws).2) := by
  obtain ⟨c1, c2, _, _, _, c6⟩ := ccs k (by omega) h7
  obtain ⟨_, p0⟩ := c6 (by omega)
  obtain ⟨l1, l2⟩ := fls_low (p := prk k) p0 (by omega) h
  have st : ∀ k, k < 16 → 7 ≤ k → k ≠ 9 → hb (prk k - 1) + 1 ≤ hb (prk k) ∧ hb2 (prk k - 1) + 1 ≤ hb2 (prk k) := by decide
  obtain ⟨s1, s2⟩ := st k h15 h7 h9
  refine ⟨h7, by omega, ?_, ?_, fls_wf h⟩
  · rw [hgt, if_neg (by omega)]; omega
  · rw [bng, if_neg (by omega), if_neg h9]; omega
theorem wf.paren {Ws : List Nat} (h : wf Ws) : wf (16 :: Ws) := ⟨by decide, by decide, Nat.zero_le _, Nat.zero_le _, h⟩
theorem wf.nots {Ws : List Nat} (h : wf Ws) {x : Nat} (h1 : hgt Ws ≤ 2 + x) (h2 : bng Ws ≤ 2) (hx : x < 6) : wf (9 :: Ws) ∧ hgt (9 :: Ws) ≤ 2 + (x + 1) ∧ bng (9 :: Ws) ≤ 2 := by
  have e1 : hgt (9 :: Ws) = hgt Ws + 1 := rfl
  have e2 : bng (9 :: Ws) = bng Ws + 0 := rfl
  have b1 : hb (prk 9) = 8 := rfl
  have b2 : hb2 (prk 9) = 2 := rfl
  exact ⟨⟨by decide, by decide, by omega, by omega, h⟩, by omega, by omega⟩
/-- a bracket closes -/
theorem fls_close : ∀ {Ws : List Nat}, wf Ws → (dpt Ws = 0 → (fls 1 Ws).2 = []) ∧ (0 < dpt Ws → ∃ Vs, (fls 1 Ws).2 = 16 :: Vs ∧ dpt Ws = dpt Vs + 1)
  | [], _ => ⟨fun _ => rfl, fun h => absurd h (by decide)⟩
  | k :: Ws, h => by
    obtain ⟨i1, i2⟩ := fls_close h.2.2.2.2
    rw [fls, dpt]
    by_cases q : k = 16
    · rw [if_pos q, if_pos (show prk k < 1 by rw [q]; decide)]
      exact ⟨fun z => absurd z (by omega), fun _ => ⟨Ws, by rw [q], rfl⟩⟩
    · obtain ⟨_, _, _, _, _, c6⟩ := ccs k h.2.1 h.1
      obtain ⟨_, p0⟩ := c6 q
      rw [if_neg q, if_neg (by omega), Nat.add_zero]
      exact ⟨i1, i2⟩
/-- a rule so far: how many values stand -/
def EVP (P : List Int32) (n : Nat) : Prop := ∀ v, ∃ st, evL v P [] = some st ∧ st.length = n
theorem evL_snoc (v : Int32 → Int32) (c : Int32) : ∀ (P : List Int32) (st : List Int32), evL v (P ++ [c]) st = (evL v P st).bind (ev1 v c)
  | [], st => by
    rw [List.nil_append, evL, evL, Option.bind_some]
    cases ev1 v c st with
    | none => rfl
    | some x => rfl
  | d :: P, st => by
    rw [List.cons_append, evL, evL]
    cases ev1 v d st with
    | none => rfl
    | some x =>
      rw [Option.bind_some, Option.bind_some]
      exact evL_snoc v c P x
theorem EVP.val {P : List Int32} {n : Nat} {c : Int32} (h : EVP P n) (hn : n < 40) (hc : ¬ c < -6) : EVP (P ++ [c]) (n + 1) := fun v => by
  obtain ⟨st, a, b⟩ := h v
  rw [evL_snoc, a, Option.bind_some]
  unfold ev1
  by_cases q : c < 0
  · rw [if_neg (fun z => z q), if_pos hc, if_pos (by omega)]
    exact ⟨_, rfl, by rw [List.length_cons, b]⟩
  · rw [if_pos q, if_pos (by omega)]
    exact ⟨_, rfl, by rw [List.length_cons, b]⟩
theorem cc_n : ∀ k, k < 16 → 7 ≤ k → cc k < 0 ∧ cc k < -6 ∧ (cc k = -9 ↔ k = 9) ∧ ¬ cc k < -15 := by decide
theorem EVP.op {P : List Int32} {n k : Nat} (h : EVP P (n + if k = 9 then 1 else 2)) (h7 : 7 ≤ k) (h16 : k < 16) : EVP (P ++ [cc k]) (n + 1) := fun v => by
  obtain ⟨st, a, b⟩ := h v
  obtain ⟨c1, c2, c3, c4⟩ := cc_n k h16 h7
  rw [evL_snoc, a, Option.bind_some]
  unfold ev1
  rw [if_neg (fun z => z c1), if_neg (fun z => z c2)]
  by_cases q : k = 9
  · rw [if_pos (c3.mpr q)]
    rw [if_pos q] at b
    match st, b with
    | x :: st, b => exact ⟨_, rfl, by rw [List.length_cons] at b ⊢; omega⟩
  · rw [if_neg (fun z => q (c3.mp z)), if_pos c4]
    rw [if_neg q] at b
    match st, b with
    | x :: y :: st, b => exact ⟨_, rfl, by rw [List.length_cons, List.length_cons] at b; rw [List.length_cons]; omega⟩
theorem EVP.ops {r : Nat} : ∀ (L : List Nat) (P : List Int32), (∀ k, k ∈ L → 7 ≤ k ∧ k < 16) → EVP P (bns L + 1 + r) → EVP (P ++ L.map cc) (1 + r)
  | [], P, _, h => by
    rw [List.map_nil, List.append_nil]
    rw [bns, Nat.zero_add] at h
    exact h
  | k :: L, P, hk, h => by
    obtain ⟨k7, k16⟩ := hk k List.mem_cons_self
    have h' : EVP (P ++ [cc k]) (bns L + r + 1) := by
      refine EVP.op ?_ k7 k16
      rw [bns] at h
      by_cases q : k = 9
      · rw [if_pos (Or.inr q)] at h
        rw [if_pos q]
        rw [show bns L + r + 1 = bns L + 0 + 1 + r by omega]
        exact h
      · rw [if_neg (fun z => z.elim (by omega) q)] at h
        rw [if_neg q, show bns L + r + 2 = bns L + 1 + 1 + r by omega]
        exact h
    rw [List.map_cons, show P ++ cc k :: L.map cc = (P ++ [cc k]) ++ L.map cc by rw [List.append_assoc]; rfl]
    exact EVP.ops L (P ++ [cc k]) (fun x hx => hk x (List.mem_cons_of_mem k hx)) (by rw [show bns L + 1 + r = bns L + r + 1 by omega]; exact h')
theorem EVP.flush {P : List Int32} {Ws : List Nat} {p : Nat} (h : EVP P (bns Ws + 1)) (hw : wf Ws) (hp : 1 ≤ p) : EVP (P ++ (fls p Ws).1.map cc) (bns (fls p Ws).2 + 1) := by
  obtain ⟨_, d2, d3⟩ := fls_dpt hp Ws
  have v := hw.vld
  rw [show bns (fls p Ws).2 + 1 = 1 + bns (fls p Ws).2 by omega]
  refine EVP.ops _ P (fun k hk => ?_) (by rw [d2] at h; rw [Nat.add_right_comm]; exact h)
  have m : k ∈ Ws := by
    rw [← fls_app p Ws]
    exact List.mem_append_left _ hk
  have := v k m
  have := d3 k hk
  omega
