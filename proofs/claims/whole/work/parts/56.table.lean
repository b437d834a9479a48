/-! At the table: answers given and undone -/
theorem php : ∀ (n : Nat) (f : Nat → Nat), (∀ i, i < n → f i < n) → (∀ i j, i < n → j < n → f i = f j → i = j) → ∀ x, x < n → ∃ i, i < n ∧ f i = x
  | 0, _, _, _, _, h => absurd h (Nat.not_lt_zero _)
  | n + 1, f, h1, h2, x, hx => by
    have ih := php n (fun i => if f i = n then f n else f i) (fun i hi => by
      have a := h1 i (by omega)
      have b := h1 n (by omega)
      have c := h2 i n (by omega) (by omega)
      split <;> omega) (fun i j hi hj e => by
      have ci := h2 i n (by omega) (by omega)
      have cj := h2 j n (by omega) (by omega)
      refine h2 i j (by omega) (by omega) ?_
      split at e <;> split at e <;> omega)
    by_cases w : x = f n
    · exact ⟨n, by omega, w.symm⟩
    · by_cases w2 : x = n
      · have b := h1 n (by omega)
        obtain ⟨i, hi, e⟩ := ih (f n) (by omega)
        split at e
        · next q => exact ⟨i, by omega, by omega⟩
        · have := h2 i n (by omega) (by omega) e
          omega
      · obtain ⟨i, hi, e⟩ := ih x (by omega)
        split at e
        · omega
        · exact ⟨i, by omega, e⟩
/-- whence -/
def iv (f : Nat → Nat) : Nat → Nat → Nat
  | 0, _ => 0
  | n + 1, x => if f n = x then n else iv f n x
theorem iv_s {f : Nat → Nat} {x : Nat} : ∀ n, (∃ i, i < n ∧ f i = x) → iv f n x < n ∧ f (iv f n x) = x
  | 0, h => by
    obtain ⟨i, hi, _⟩ := h
    omega
  | n + 1, h => by
    rw [iv]
    split
    · next q => exact ⟨by omega, q⟩
    · next q =>
      obtain ⟨i, hi, e⟩ := h
      have := iv_s n ⟨i, by
        by_cases w : i = n
        · rw [w] at e
          exact absurd e q
        · omega, e⟩
      exact ⟨by omega, this.2⟩
theorem ivnp {C H k s l a x : Nat} (hc : CH C H) (ha : a < H) (hx : x < C) : iv (np C H k s l a a) C x < C ∧ np C H k s l a a (iv (np C H k s l a a) C x) = x := by
  obtain ⟨c1, c2, c3, c4⟩ := hc
  exact iv_s C (php C _ (fun i hi => np_lt c1 c3 ha ha hi) (fun i j hi hj e => np_inj c1 c3 ha ha hi hj e) x hx)
theorem ivnp2 {C H k s l a p : Nat} (hc : CH C H) (ha : a < H) (hp' : p < C) : iv (np C H k s l a a) C (np C H k s l a a p) = p := by
  have c1 := hc.1
  have c3 := hc.2.2.1
  obtain ⟨h1, h2⟩ := ivnp (k := k) (s := s) (l := l) hc ha (np_lt (k := k) (s := s) (l := l) c1 c3 ha ha hp')
  exact np_inj c1 c3 ha ha h1 hp' h2
/-- what is added to a card -/
def ad (P f : Nat → Nat) : Nat → Nat → Nat
  | 0, _ => 0
  | n + 1, c => ad P f n c + if P n = c then f n else 0
def fl (C H k a p : Nat) : Nat := if hp C H k p = a then 0 else 1
theorem ad_le {P : Nat → Nat} {C H k a : Nat} : ∀ n c, ad P (fl C H k a) n c ≤ n
  | 0, _ => Nat.le_refl _
  | n + 1, c => by
    have := ad_le (P := P) (C := C) (H := H) (k := k) (a := a) n c
    have h2 : fl C H k a n ≤ 1 := by
      unfold fl
      split <;> omega
    rw [ad]
    split <;> omega
theorem ad_mono {P f : Nat → Nat} (c : Nat) : ∀ d n, ad P f n c ≤ ad P f (n + d) c
  | 0, _ => Nat.le_refl _
  | d + 1, n => by
    have := ad_mono (P := P) (f := f) c d n
    rw [← Nat.add_assoc, ad]
    omega
/-- a deal's figures -/
def cdn (q : Nat × Nat × Nat × Nat) : Nat := ((q.1 * 6 + q.2.1) * 6 + q.2.2.1) * 6 + q.2.2.2
def cdv (H : Nat) (q : Nat × Nat × Nat × Nat) : Prop := q.1 < 3 ∧ q.2.1 < 2 ∧ q.2.2.1 < H ∧ q.2.2.2 < H
/-- one answer in its history -/
def HS (C H d1 ps ms : Nat) (PH MH : Nat → Nat → Nat) (cd : Nat → Nat × Nat × Nat × Nat) (I : Nat → Nat → Int32) (j : Nat) : Prop :=
  cdv H (cd j) ∧ I d1 j = nI (cdn (cd j)) ∧ (∀ p, p < C → I ps (60 * j + p) = nI (PH j p)) ∧ (∀ c, c < C → I ms (60 * j + c) = nI (MH j c)) ∧ (∀ p, p < C → PH (j + 1) (np C H (cd j).1 (cd j).2.1 (cd j).2.2.1 (cd j).2.2.2 (cd j).2.2.2 p) = PH j p) ∧ (∀ c, c < C → MH (j + 1) c = MH j c + ad (PH j) (fl C H (cd j).1 (cd j).2.2.2) C c)
def TB (C H A p1 f1 d1 p2 m2 ps ms : Nat) (PH MH : Nat → Nat → Nat) (cd : Nat → Nat × Nat × Nat × Nat) (I : Nat → Nat → Int32) : Prop :=
  A ≤ 20 ∧ (∀ p, p < C → I p1 p = nI (PH A p) ∧ I p2 p = nI (PH A p)) ∧ (∀ c, c < C → I f1 c = nI (MH A c) ∧ I m2 c = nI (MH A c)) ∧ (∀ j p, j ≤ A → p < C → PH j p < C ∧ MH j p ≤ j * 60) ∧ (∀ j, j < A → HS C H d1 ps ms PH MH cd I j)
theorem f121_in {w : Nat} (hw : w < 100) : ∀ (j i m v : Nat), i + j = w → j < m → v < 2147483648 → fx (fun _ _ _ => none) bd_121_1 m (nI w) (nI v) (nI i) = some (nI (v / 6 ^ j % 6))
  | _, _, 0, _, _, h, _ => absurd h (Nat.not_lt_zero _)
  | 0, i, m + 1, v, e, _, hv => by
    obtain rfl : i = w := by omega
    rw [fx_s, bd_121_1, Nat.pow_zero, Nat.div_one]
    simp only [lits]
    simp (disch := omega) only [↓remN, ltN, Nat.lt_irrefl, if_false]
  | j + 1, i, m + 1, v, e, hm, hv => by
    have hi : i < w := by omega
    have hd : v / 6 ≤ v := Nat.div_le_self _ _
    have := f121_in hw j (i + 1) m (v / 6) (by omega) (by omega) (by omega)
    rw [Nat.pow_succ, Nat.mul_comm, ← Nat.div_div_eq_div_mul, ← this, fx_s, bd_121_1]
    have dd : nI v / nI 6 = nI (v / 6) := divN hv (by decide) (by decide)
    simp (disch := omega) only [lits, ltN, hi, if_true, dd, addN]
theorem f121_s {v i : Nat} (hv : v < 2147483648) (hi : i < 100) : f_121 (nI v) (nI i) = some (nI (v / 6 ^ i % 6)) := f121_in hi i 0 FU v (by omega) (FU_big (by omega)) hv
theorem cdn_lt {H : Nat} {q : Nat × Nat × Nat × Nat} (hH : H ≤ 6) (h : cdv H q) : cdn q < 648 ∧ cdn q / 6 ^ 3 % 6 = q.1 ∧ cdn q / 6 ^ 2 % 6 = q.2.1 ∧ cdn q / 6 ^ 1 % 6 = q.2.2.1 ∧ cdn q / 6 ^ 0 % 6 = q.2.2.2 := by
  obtain ⟨h1, h2, h3, h4⟩ := h
  unfold cdn
  have e3 : 6 ^ 3 = 216 := by decide
  have e2 : 6 ^ 2 = 36 := by decide
  have e1 : 6 ^ 1 = 6 := by decide
  have e0 : 6 ^ 0 = 1 := by decide
  rw [e3, e2, e1, e0]
  omega
/-- the class lays by a code -/
theorem f67_s {C H : Nat} {q : Nat × Nat × Nat × Nat} {I : Nat → Nat → Int32} (hc : CH C H) (hq : cdv H q) (h : DT C H I) : ∃ I1, f_67 (nI (cdn q)) I = some I1 ∧ DK C H q.1 q.2.1 I1 ∧ SS H (bef (ct C H q.1 C) (ord q.2.2.2 q.2.2.2 q.2.2.1 H)) I1 ∧ Keep I I1 ∧ Fr [74, 78] I I1 := by
  have c2 := hc.2.1
  obtain ⟨z, z3, z2, z1, z0⟩ := cdn_lt c2 hq
  have g3 := f121_s (v := cdn q) (i := 3) (by omega) (by decide)
  have g2 := f121_s (v := cdn q) (i := 2) (by omega) (by decide)
  have g1 := f121_s (v := cdn q) (i := 1) (by omega) (by decide)
  have g0 := f121_s (v := cdn q) (i := 0) (by omega) (by decide)
  rw [z3] at g3
  rw [z2] at g2
  rw [z1] at g1
  rw [z0] at g0
  obtain ⟨I1, r1, r2, r3⟩ := f3_s (k := q.1) (s := q.2.1) h
  obtain ⟨I2, t1, t2, t3, t4⟩ := f4_s hc hq.1 hq.2.2.2 hq.2.2.2 hq.2.2.1 r2
  refine ⟨I2, ?_, t3, t2, (Keep.f3 r3 h r2).trans (Keep.fr t4 (by decide)), (r3.mono (by decide)).trans (t4.mono (by decide))⟩
  unfold f_67
  simp only [lits, g3, g2, g1, g0, Option.bind_some, r1, t1]
theorem f68_s {C H : Nat} {p : Nat} {q : Nat × Nat × Nat × Nat} {I : Nat → Nat → Int32} (hc : CH C H) (hq : cdv H q) (h : DK C H q.1 q.2.1 I) (hp' : p < C) : f_68 (nI p) (nI (cdn q)) I = some (nI (fl C H q.1 q.2.2.2 p)) := by
  have c2 := hc.2.1
  have c1 := hc.1
  have c3 := hc.2.2.1
  obtain ⟨z, z3, z2, z1, z0⟩ := cdn_lt c2 hq
  have g0 := f121_s (v := cdn q) (i := 0) (by omega) (by decide)
  rw [z0] at g0
  have hl := hp_lt (k := q.1) c1 c3 hp'
  have ha := hq.2.2.2
  unfold f_68 lb_68_2 fl
  simp (disch := omega) only [lits, g0, f8_s hc hq.1 h hp', Option.bind_some, eqN]
  split <;> rfl
theorem f10np {C H : Nat} {p : Nat} {q : Nat × Nat × Nat × Nat} {I : Nat → Nat → Int32} (hc : CH C H) (hq : cdv H q) (h : DK C H q.1 q.2.1 I) (hs : SS H (bef (ct C H q.1 C) (ord q.2.2.2 q.2.2.2 q.2.2.1 H)) I) (hp' : p < C) : f_10 (nI p) I = some (nI (np C H q.1 q.2.1 q.2.2.1 q.2.2.2 q.2.2.2 p)) := f10_s hc hq.1 hq.2.1 h hs hp'
/-- the class deals at the table -/
theorem f63_in {C H : Nat} {q : Nat × Nat × Nat × Nat} {P M0 : Nat → Nat} (hc : CH C H) (hq : cdv H q) (hP : ∀ p, p < C → P p < C) : ∀ (j p n : Nat) (I : Nat → Nat → Int32), p + j = C → j < n → DK C H q.1 q.2.1 I → SS H (bef (ct C H q.1 C) (ord q.2.2.2 q.2.2.2 q.2.2.1 H)) I → (∀ x, x < C → I 59 x = nI (P x)) → (∀ x, x < p → I 88 (np C H q.1 q.2.1 q.2.2.1 q.2.2.2 q.2.2.2 x) = nI (P x)) → (∀ c, c < C → I 90 c = nI (M0 c + ad P (fl C H q.1 q.2.2.2) p c)) → ∃ I', fx (fun _ _ _ => none) bd_63_1 n (nI (cdn q)) (nI p) I = some I' ∧ (∀ x, x < C → I' 88 (np C H q.1 q.2.1 q.2.2.1 q.2.2.2 q.2.2.2 x) = nI (P x)) ∧ (∀ c, c < C → I' 90 c = nI (M0 c + ad P (fl C H q.1 q.2.2.2) C c)) ∧ Fr [88, 90] I I'
  | _, _, 0, _, _, h, _, _, _, _, _ => absurd h (Nat.not_lt_zero _)
  | 0, p, n + 1, I, e, _, h, hs, h5, h8, h9 => by
    have c4 := hc.2.2.2
    obtain rfl : p = C := by omega
    refine ⟨I, ?_, h8, h9, Fr.refl _ _⟩
    rw [fx_s, bd_63_1]
    simp (disch := omega) only [h.1.1, ltN, Nat.lt_irrefl, if_false]
  | j + 1, p, n + 1, I, e, hn, h, hs, h5, h8, h9 => by
    have hC := hc
    obtain ⟨c1, c2, c3, c4⟩ := hc
    have hp' : p < C := by omega
    have nl := np_lt (k := q.1) (s := q.2.1) (l := q.2.2.1) c1 c3 hq.2.2.2 hq.2.2.2 hp'
    have pl := hP p hp'
    have a5 := h5 p hp'
    have a9 := h9 _ pl
    have fr1 : Fr [88, 90] I (up I 88 (np C H q.1 q.2.1 q.2.2.1 q.2.2.2 q.2.2.2 p) (nI (P p))) := (Fr.refl _ _).up (by decide)
    have d1 := h.fr fr1 (by decide) (by decide) (by decide) (by decide)
    have fr2 : Fr [88, 90] I (up (up I 88 (np C H q.1 q.2.1 q.2.2.1 q.2.2.2 q.2.2.2 p) (nI (P p))) 90 (P p) (nI (M0 (P p) + ad P (fl C H q.1 q.2.2.2) p (P p) + fl C H q.1 q.2.2.2 p))) := fr1.up (by decide)
    obtain ⟨I', r1, r2, r3, r4⟩ := f63_in hC hq hP j (p + 1) n _ (by omega) (by omega) (h.fr fr2 (by decide) (by decide) (by decide) (by decide)) (fun x hx => by rw [fr2 78 (by decide)]; exact hs x hx) (fun x hx => by rw [fr2 59 (by decide)]; exact h5 x hx) (fun x hx => by
        rw [up_ne (by decide), up_eq]
        split
        · next w => rw [np_inj c1 c3 hq.2.2.2 hq.2.2.2 (by omega) hp' w]
        · next w => exact h8 x (by
            by_cases w2 : x = p
            · rw [w2] at w
              exact absurd rfl w
            · omega)) (fun c hc' => by
        rw [up_eq, ad]
        split
        · next w => rw [w, if_pos rfl, Nat.add_assoc]
        · next w =>
          rw [up_ne (by decide), h9 c hc', if_neg (fun e => w e.symm), Nat.add_zero])
    refine ⟨I', ?_, r2, r3, fr2.trans r4⟩
    rw [fx_s, bd_63_1, ← r1, f10np hC hq h hs hp', Option.bind_some]
    simp (disch := omega) only [h.1.1, lits, ltN, hp', if_true, atN, a5, puN, f68_s hC hq d1 hp', Option.bind_some, up_ne, a9, addN]
/-- the class gathers at the table -/
theorem f64_in {C H : Nat} {q : Nat × Nat × Nat × Nat} {P M0 : Nat → Nat} (hc : CH C H) (hq : cdv H q) (hP : ∀ p, p < C → P p < C) (hM : ∀ c, c < C → M0 c ≤ 2000) : ∀ (j p n : Nat) (I : Nat → Nat → Int32), p + j = C → j < n → DK C H q.1 q.2.1 I → SS H (bef (ct C H q.1 C) (ord q.2.2.2 q.2.2.2 q.2.2.1 H)) I → (∀ x, x < C → I 59 (np C H q.1 q.2.1 q.2.2.1 q.2.2.2 q.2.2.2 x) = nI (P x)) → (∀ x, x < p → I 88 x = nI (P x)) → (∀ c, c < C → I 90 c = nI (M0 c + ad P (fl C H q.1 q.2.2.2) C c - ad P (fl C H q.1 q.2.2.2) p c)) → ∃ I', fx (fun _ _ _ => none) bd_64_1 n (nI (cdn q)) (nI p) I = some I' ∧ (∀ x, x < C → I' 88 x = nI (P x)) ∧ (∀ c, c < C → I' 90 c = nI (M0 c)) ∧ Fr [88, 90] I I'
  | _, _, 0, _, _, h, _, _, _, _, _ => absurd h (Nat.not_lt_zero _)
  | 0, p, n + 1, I, e, _, h, hs, h5, h8, h9 => by
    have c4 := hc.2.2.2
    obtain rfl : p = C := by omega
    refine ⟨I, ?_, h8, fun c hc => by rw [h9 c hc, Nat.add_sub_cancel], Fr.refl _ _⟩
    rw [fx_s, bd_64_1]
    simp (disch := omega) only [h.1.1, ltN, Nat.lt_irrefl, if_false]
  | j + 1, p, n + 1, I, e, hn, h, hs, h5, h8, h9 => by
    have hC := hc
    obtain ⟨c1, c2, c3, c4⟩ := hc
    have hp' : p < C := by omega
    have nl := np_lt (k := q.1) (s := q.2.1) (l := q.2.2.1) c1 c3 hq.2.2.2 hq.2.2.2 hp'
    have pl := hP p hp'
    have a5 := h5 p hp'
    have a9 := h9 _ pl
    have m1 := ad_mono (P := P) (f := fl C H q.1 q.2.2.2) (P p) (C - (p + 1)) (p + 1)
    rw [show p + 1 + (C - (p + 1)) = C by omega, ad, if_pos rfl] at m1
    have fr1 : Fr [88, 90] I (up I 88 p (nI (P p))) := (Fr.refl _ _).up (by decide)
    have d1 := h.fr fr1 (by decide) (by decide) (by decide) (by decide)
    have fr2 : Fr [88, 90] I (up (up I 88 p (nI (P p))) 90 (P p) (nI (M0 (P p) + ad P (fl C H q.1 q.2.2.2) C (P p) - ad P (fl C H q.1 q.2.2.2) p (P p) - fl C H q.1 q.2.2.2 p))) := fr1.up (by decide)
    obtain ⟨I', r1, r2, r3, r4⟩ := f64_in hC hq hP hM j (p + 1) n _ (by omega) (by omega) (h.fr fr2 (by decide) (by decide) (by decide) (by decide)) (fun x hx => by rw [fr2 78 (by decide)]; exact hs x hx) (fun x hx => by rw [fr2 59 (by decide)]; exact h5 x hx) (fun x hx => by
        rw [up_ne (by decide), up_eq]
        split
        · next w => rw [w]
        · next w => exact h8 x (by omega)) (fun c hc' => by
        rw [up_eq, ad]
        split
        · next w => rw [w, if_pos rfl, Nat.sub_sub]
        · next w =>
          rw [up_ne (by decide), h9 c hc', if_neg (fun e => w e.symm), Nat.add_zero])
    refine ⟨I', ?_, r2, r3, fr2.trans r4⟩
    rw [fx_s, bd_64_1, ← r1, f10np hC hq h hs hp', Option.bind_some]
    simp (disch := omega) only [h.1.1, lits, ltN, hp', if_true, atN, a5, puN, f68_s hC hq d1 hp', Option.bind_some, up_ne, a9, subN, addN]
