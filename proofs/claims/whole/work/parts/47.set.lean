/-! What is told: the class's setting and the model's, rules as codes -/
/-- things that calls use as they like -/
def SC : List Nat := [59, 74, 78, 84, 85, 86, 97, 110, 111, 112, 113, 114, 115, 116, 117, 118, 120, 121, 127]
def SC0 : List Nat := [59, 78, 85, 86, 110, 111, 112, 113, 114, 115, 116, 117, 118, 120, 121, 127]
/-- all that counts is as before -/
def Keep (I I' : Nat → Nat → Int32) : Prop := Fr SC I I' ∧ I' 74 4 = I 74 4 ∧ I' 74 5 = I 74 5 ∧ I' 84 5 = I 84 5 ∧ I' 84 6 = I 84 6 ∧ ∀ k, k ≠ 0 → k ≠ 49 → I' 97 k = I 97 k
theorem Keep.refl (I : Nat → Nat → Int32) : Keep I I := ⟨Fr.refl _ _, rfl, rfl, rfl, rfl, fun _ _ _ => rfl⟩
theorem Keep.trans {I I' I'' : Nat → Nat → Int32} (h : Keep I I') (h' : Keep I' I'') : Keep I I'' := by
  obtain ⟨a, b, c, d, e, f⟩ := h
  obtain ⟨a', b', c', d', e', f'⟩ := h'
  exact ⟨a.trans a', b'.trans b, c'.trans c, d'.trans d, e'.trans e, fun k h0 h1 => (f' k h0 h1).trans (f k h0 h1)⟩
theorem Keep.fr {S : List Nat} {I I' : Nat → Nat → Int32} (h : Fr S I I') (hs : ∀ a, a ∈ S → a ∈ SC0) : Keep I I' := by
  have n : ∀ a, a ∉ SC0 → I' a = I a := fun a ha => h a (fun w => ha (hs a w))
  have n74 := n 74 (by decide)
  have n84 := n 84 (by decide)
  have n97 := n 97 (by decide)
  have sub : ∀ a, a ∈ SC0 → a ∈ SC := by decide
  exact ⟨fun a ha => n a (fun w => ha (sub a w)), by rw [n74], by rw [n74], by rw [n84], by rw [n84], fun k _ _ => by rw [n97]⟩
theorem Keep.f3 {C H k s : Nat} {I I' : Nat → Nat → Int32} (h : Fr [74] I I') (hd : DT C H I) (hd' : DK C H k s I') : Keep I I' := by
  refine ⟨h.mono (by decide), ?_, ?_, by rw [h 84 (by decide)], by rw [h 84 (by decide)], fun k _ _ => by rw [h 97 (by decide)]⟩
  · rw [hd.1, hd'.1.1]
  · rw [hd.2.1, hd'.1.2.1]
theorem Keep.up0 {I I' : Nat → Nat → Int32} (h : Keep I I') (v : Int32) : Keep I (up I' 97 0 v) := by
  obtain ⟨a, b, c, d, e, f⟩ := h
  refine ⟨a.up (by decide), ?_, ?_, ?_, ?_, fun k h0 h1 => ?_⟩
  · rw [up_ne (by decide)]; exact b
  · rw [up_ne (by decide)]; exact c
  · rw [up_ne (by decide)]; exact d
  · rw [up_ne (by decide)]; exact e
  · rw [up_nk h0]; exact f k h0 h1
/-- what joins two numbers -/
def jn (c a b : Int32) : Int32 := if c = -7 then (if a = 0 ∧ b = 0 then 0 else 1) else if c = -8 then (if a = 0 ∨ b = 0 then 0 else 1) else if c = -10 then (if a < b then 1 else 0) else if c = -11 then (if a = b then 1 else 0) else if c = -12 then a + b else if c = -13 then a - b else if c = -14 then a * b else (if b = 0 then 0 else a / b)
/-- one code of a rule, worked with a pile (at most 40) -/
def ev1 (v : Int32 → Int32) (c : Int32) (st : List Int32) : Option (List Int32) :=
  if ¬ c < 0 then (if st.length < 40 then some (c :: st) else none)
  else if ¬ c < -6 then (if st.length < 40 then some (v c :: st) else none)
  else if c = -9 then (match st with
    | a :: st => some ((if a = 0 then 1 else 0) :: st)
    | _ => none)
  else if ¬ c < -15 then (match st with
    | b :: a :: st => some (jn c a b :: st)
    | _ => none)
  else none
def evL (v : Int32 → Int32) : List Int32 → List Int32 → Option (List Int32)
  | [], st => some st
  | c :: P, st => (ev1 v c st).bind (evL v P)
/-- the values of a rule -/
def env (d w H C h z : Nat) (c : Int32) : Int32 := if c = -1 then nI d else if c = -2 then nI w else if c = -3 then nI H else if c = -4 then nI C else if c = -5 then nI h else nI z
/-- the model's codes -/
def opm (c : Int32) : Int32 := if c = -7 then 5 else if c = -8 then 4 else if c = -9 then 3 else if c = -10 then 6 else if c = -11 then 7 else if c = -12 then 8 else if c = -13 then 9 else if c = -14 then 10 else if c = -15 then 11 else 14
def enc (c : Int32) : List Int32 := if ¬ c < 0 then [1, c] else if ¬ c < -6 then [2, -1 - c] else [opm c]
def encL : List Int32 → List Int32
  | [] => []
  | c :: P => enc c ++ encL P
/-- a row of numbers from a place on -/
def Row (f : Nat → Int32) (a : Nat) (L : List Int32) : Prop := ∀ i, i < L.length → f (a + i) = L.getD i 0
theorem Row.cons {f : Nat → Int32} {a : Nat} {x : Int32} {L : List Int32} (h : Row f a (x :: L)) : f a = x ∧ Row f (a + 1) L := by
  refine ⟨h 0 (by rw [List.length_cons]; omega), fun i hi => ?_⟩
  have := h (i + 1) (by rw [List.length_cons]; omega)
  rw [show a + 1 + i = a + (i + 1) by omega, this]
  rfl
/-- the rest of a number by the heaps -/
def fr (x : Int32) (H v : Nat) : Prop := v < H ∧ f_125 x (nI H) = some (nI v) ∧ (if (x - x / nI H * nI H) < 0 then (x - x / nI H * nI H) + nI H else (x - x / nI H * nI H)) = nI v
theorem fr_ex (x : Int32) {H : Nat} (h : 2 ≤ H) (h2 : H ≤ 6) : ∃ v, fr x H v := by
  obtain ⟨v, a, b, c⟩ := rem_both x (H := H) (by omega) (by omega)
  exact ⟨v, a, b, c⟩
/-- a rule that the model holds gives these layings -/
def EV (C H w : Nat) (k : Nat) (d : Nat) (y : Nat → Nat) (I : Nat → Nat → Int32) : Prop := ∃ (P : List Int32) (a : Nat), I 100 d = nI a ∧ a + (encL P).length < 1300 ∧ Row (I 101) a (encL P ++ [0]) ∧ ∀ h, h < H → ∃ x, evL (env d w H C h (ct C H k C h)) P [] = some [x] ∧ fr x H (y h)
/-- what is told -/
def SetP (C H N M w : Nat) (K S : Nat → Nat) (Y : Nat → Nat → Nat) (I : Nat → Nat → Int32) : Prop :=
  CH C H ∧ N ≤ 8 ∧ M ≤ 2 ∧ w ≤ 59 ∧ DT C H I ∧
  (I 79 4 = nI C ∧ I 79 5 = nI H ∧ I 79 6 = nI M ∧ I 79 7 = nI w ∧ I 79 8 = nI N ∧ I 79 9 = nI (max N 1)) ∧
  (∀ d, d < max N 1 → K d < 3 ∧ S d < 2 ∧ I 80 d = nI (K d) ∧ I 81 d = nI (S d)) ∧
  (∀ d h, d < max N 1 → h < H → Y d h < H ∧ I 82 (d * 6 + h) = nI (Y d h)) ∧
  (∀ d p, d < max N 1 → p < C → I 83 (d * 60 + p) = nI (fw C H (K d) (S d) (Y d) p)) ∧
  (I 97 1 = nI C ∧ I 97 2 = nI H ∧ I 97 3 = nI N ∧ I 97 4 = nI M ∧ I 97 5 = nI w) ∧
  (N = 0 → K 0 = 0 ∧ S 0 = 1 ∧ ∀ h, h < H → Y 0 h = H / 2) ∧
  (∀ d, d < N → I 98 d = nI (K d) ∧ I 99 d = nI (S d) ∧ EV C H w (K d) d (Y d) I)
theorem SetP.keep {C H N M w : Nat} {K S : Nat → Nat} {Y : Nat → Nat → Nat} {I I' : Nat → Nat → Int32} (h : SetP C H N M w K S Y I) (k : Keep I I') : SetP C H N M w K S Y I' := by
  obtain ⟨a1, a2, a3, a4, a5, a6, a7, a8, a9, b1, b2, b3⟩ := h
  obtain ⟨f, k4, k5, _, _, k97⟩ := k
  have e79 := f 79 (by decide)
  have e80 := f 80 (by decide)
  have e81 := f 81 (by decide)
  have e82 := f 82 (by decide)
  have e83 := f 83 (by decide)
  have e98 := f 98 (by decide)
  have e99 := f 99 (by decide)
  have e100 := f 100 (by decide)
  have e101 := f 101 (by decide)
  refine ⟨a1, a2, a3, a4, a5.fr k4 k5 (f 75 (by decide)) (f 76 (by decide)) (f 77 (by decide)), by rw [e79]; exact a6, fun d hd => by rw [e80, e81]; exact a7 d hd, fun d h hd hh => by rw [e82]; exact a8 d h hd hh, fun d p hd hp => by rw [e83]; exact a9 d p hd hp, ?_, b2, fun d hd => ?_⟩
  · rw [k97 1 (by decide) (by decide), k97 2 (by decide) (by decide), k97 3 (by decide) (by decide), k97 4 (by decide) (by decide), k97 5 (by decide) (by decide)]
    exact b1
  · obtain ⟨c1, c2, P, a, d1, d2, d3, d4⟩ := b3 d hd
    exact ⟨by rw [e98]; exact c1, by rw [e99]; exact c2, P, a, by rw [e100]; exact d1, d2, by rw [e101]; exact d3, d4⟩
section SP
variable {C H N M w : Nat} {K S : Nat → Nat} {Y : Nat → Nat → Nat} {I : Nat → Nat → Int32}
theorem SetP.ch (h : SetP C H N M w K S Y I) : CH C H := h.1
theorem SetP.dt (h : SetP C H N M w K S Y I) : DT C H I := h.2.2.2.2.1
theorem SetP.mc (h : SetP C H N M w K S Y I) : MC C H I := ⟨h.2.2.2.2.2.2.2.2.2.1.1, h.2.2.2.2.2.2.2.2.2.1.2.1⟩
theorem SetP.k3 (h : SetP C H N M w K S Y I) {d : Nat} (hd : d < max N 1) : K d < 3 := (h.2.2.2.2.2.2.1 d hd).1
theorem SetP.s2 (h : SetP C H N M w K S Y I) {d : Nat} (hd : d < max N 1) : S d < 2 := (h.2.2.2.2.2.2.1 d hd).2.1
theorem SetP.yl (h : SetP C H N M w K S Y I) {d x : Nat} (hd : d < max N 1) (hx : x < H) : Y d x < H := (h.2.2.2.2.2.2.2.1 d x hd hx).1
theorem SetP.f51 (h : SetP C H N M w K S Y I) {i : Nat} (hi : i < 2147483648) : f_51 (nI i) I = some (nI (K (i % max N 1))) ∧ i % max N 1 < max N 1 := by
  have n8 := h.2.1
  have hl : i % max N 1 < max N 1 := Nat.mod_lt _ (by omega)
  have e := (h.2.2.2.2.2.2.1 _ hl).2.2.1
  refine ⟨?_, hl⟩
  unfold f_51
  rw [h.2.2.2.2.2.1.2.2.2.2.2, f125N hi (by omega) (by omega), Option.bind_some, atN (by omega) (by omega), e]
theorem SetP.f52 (h : SetP C H N M w K S Y I) {i : Nat} (hi : i < 2147483648) : f_52 (nI i) I = some (nI (S (i % max N 1))) := by
  have n8 := h.2.1
  have hl : i % max N 1 < max N 1 := Nat.mod_lt _ (by omega)
  have e := (h.2.2.2.2.2.2.1 _ hl).2.2.2
  unfold f_52
  rw [h.2.2.2.2.2.1.2.2.2.2.2, f125N hi (by omega) (by omega), Option.bind_some, atN (by omega) (by omega), e]
theorem SetP.f53 (h : SetP C H N M w K S Y I) {i x : Nat} (hi : i < 2147483648) (hx : x < H) : f_53 (nI i) (nI x) I = some (nI (Y (i % max N 1) x)) := by
  have n8 := h.2.1
  have c2 := h.1.2.1
  have hl : i % max N 1 < max N 1 := Nat.mod_lt _ (by omega)
  have e := (h.2.2.2.2.2.2.2.1 _ x hl hx).2
  unfold f_53
  rw [h.2.2.2.2.2.1.2.2.2.2.2, f125N hi (by omega) (by omega), Option.bind_some]
  simp (disch := omega) only [lits, mulN, addN, atN, e]
theorem SetP.f54 (h : SetP C H N M w K S Y I) {i p : Nat} (hi : i < 2147483648) (hp' : p < C) : f_54 (nI i) (nI p) I = some (nI (fw C H (K (i % max N 1)) (S (i % max N 1)) (Y (i % max N 1)) p)) := by
  have n8 := h.2.1
  have c4 := h.1.2.2.2
  have hl : i % max N 1 < max N 1 := Nat.mod_lt _ (by omega)
  have e := h.2.2.2.2.2.2.2.2.1 _ p hl hp'
  unfold f_54
  rw [h.2.2.2.2.2.1.2.2.2.2.2, f125N hi (by omega) (by omega), Option.bind_some]
  simp (disch := omega) only [lits, mulN, addN, atN, e]
end SP
