/-! worst, the calls -/
section WD
variable {C H N M w : Nat} {K S : Nat → Nat} {Y : Nat → Nat → Nat} {I : Nat → Nat → Int32}
theorem f14_s {k h : Nat} {L : List (Nat × Nat)} (hS : SetP C H N M w K S Y I) (hk : k < 6) (hh : h < H) (hA : AR C M k L I) : ∃ I', f_14 (nI k) (nI L.length) (nI h) I = some (nI (stL C H (max N 1) M K S Y k h L).length, I') ∧ AR C M (k + 1) (stL C H (max N 1) M K S Y k h L) I' ∧ Keep I I' ∧ I' 85 = I 85 ∧ (∀ y, y < (k + 1) * 60 → I' 86 y = I 86 y) := by
  obtain ⟨e1, hl⟩ := hS.f51 (i := k) (by omega)
  obtain ⟨I1, r1, r2, r3⟩ := f3_s (k := K (k % max N 1)) (s := S (k % max N 1)) hS.dt
  have k1 := Keep.f3 r3 hS.dt r2
  have h1 := hS.keep k1
  obtain ⟨I2, t1, t2, t3, t4⟩ := f4_s hS.ch (hS.k3 hl) hh hh (hS.yl hl hh) r2
  have k2 := k1.trans (Keep.fr t4 (by decide))
  have e85 : I2 85 = I 85 := by rw [t4 85 (by decide), r3 85 (by decide)]
  have e86 : I2 86 = I 86 := by rw [t4 86 (by decide), r3 86 (by decide)]
  have l60 := hA.1
  obtain ⟨I', a1, a2, a3, a4⟩ := f14_in (L := L) (k := k) (h := h) hS.ch hk hh hS.2.2.1 L.length 0 FU I2 (by omega) (FU_big (by omega)) (hS.keep k2) t3 t2 ⟨l60, fun i hi => by rw [e86]; exact hA.2 i hi⟩ ⟨by rw [List.take_zero, stL]; exact Nat.zero_le _, fun i hi => by rw [List.take_zero, stL] at hi; exact absurd hi (Nat.not_lt_zero i)⟩
  refine ⟨I', ?_, a2, k2.trans (Keep.fr a3 (by decide)), by rw [a3 85 (by decide), e85], fun y hy => by rw [a4 y hy, e86]⟩
  rw [f_14, e1, hS.f52 (by omega), Option.bind_some, Option.bind_some, r1, Option.bind_some, h1.f53 (by omega) hh, Option.bind_some, t1, Option.bind_some]
  exact a1
theorem AR.low {k : Nat} {L : List (Nat × Nat)} {I I' : Nat → Nat → Int32} (hA : AR C M k L I) (h : ∀ y, y < (k + 1) * 60 → I' 86 y = I 86 y) : AR C M k L I' :=
  ⟨hA.1, fun i hi => by
    have := hA.1
    rw [h (k * 60 + i) (by omega)]
    exact hA.2 i hi⟩
theorem mr_60 {g : Nat → Nat} (h : ∀ x, g x ≤ 60) (n : Nat) : mr g n ≤ 60 := (mr_le n).mpr (fun x _ => h x)
theorem f13_in {k f n most : Nat} {L : List (Nat × Nat)} (hk : k < 6) (hm : most ≤ 60) (g : Nat → Nat) (g60 : ∀ h, g h ≤ 60) (sb : ∀ (h m : Nat) (I : Nat → Nat → Int32), h < H → SetP C H N M w K S Y I → AR C M (k + 1) (stL C H (max N 1) M K S Y k h L) I → I 85 3 = nI n → I 85 4 = nI m → m ≤ 60 → ∃ I', fx (fun _ _ _ => none) fb_13 f (nI (k + 1)) (nI (stL C H (max N 1) M K S Y k h L).length) I = some I' ∧ Keep I I' ∧ I' 85 3 = nI n ∧ I' 85 4 = nI (max m (g h)) ∧ (∀ y, y < (k + 2) * 60 → I' 86 y = I 86 y)) : ∀ (i h m : Nat) (I : Nat → Nat → Int32), h + i = H → i < m → SetP C H N M w K S Y I → AR C M k L I → I 85 3 = nI n → I 85 4 = nI (max most (mr g h)) → ∃ I', fx (fun _ _ _ _ => none) (bd_13_3 (fx (fun _ _ _ => none) fb_13 f)) m (nI k) (nI L.length) (nI h) I = some I' ∧ Keep I I' ∧ I' 85 3 = nI n ∧ I' 85 4 = nI (max most (mr g H)) ∧ (∀ y, y < (k + 1) * 60 → I' 86 y = I 86 y) := by
  intro i
  induction i with
  | zero =>
    intro h m I eh hm' hS hA h3 h4
    cases m with
    | zero => exact absurd hm' (Nat.not_lt_zero _)
    | succ m =>
      obtain rfl : h = H := eh
      refine ⟨I, ?_, Keep.refl I, h3, h4, fun _ _ => rfl⟩
      rw [fx_s, bd_13_3, hS.i5, if_neg (Int32.lt_irrefl (a := nI h))]
  | succ i ihi =>
    intro h m I eh hm' hS hA h3 h4
    cases m with
    | zero => exact absurd hm' (Nat.not_lt_zero _)
    | succ m =>
      have hh : h < H := by clear sb ihi hA h4 h3; omega
      have hH6 := hS.ch.2.1
      have mb := mr_60 g60 h
      have mb' : max most (mr g h) ≤ 60 := Nat.max_le.mpr ⟨hm, mb⟩
      obtain ⟨I1, a1, a2, a3, a4, a5⟩ := f14_s hS hk hh hA
      obtain ⟨I2, b1, b2, b3, b4, b5⟩ := sb h (max most (mr g h)) I1 hh (hS.keep a3) a2 (by rw [a4]; exact h3) (by rw [a4]; exact h4) mb'
      have lo : ∀ y, y < (k + 1) * 60 → I2 86 y = I 86 y := fun y hy => by
        have hy2 : y < (k + 2) * 60 := Nat.lt_of_lt_of_le hy (Nat.mul_le_mul_right 60 (Nat.le_succ _))
        rw [b5 y hy2, a5 y hy]
      have one : nI k + (1 : Int32) = nI (k + 1) := addN k 1
      have two : nI h + (1 : Int32) = nI (h + 1) := addN h 1
      have lt : nI h < nI H := (ltN (Nat.lt_of_lt_of_le hh (Nat.le_trans hH6 (by decide))) (Nat.lt_of_le_of_lt hH6 (by decide))).mpr hh
      have eh' : h + 1 + i = H := by rw [← eh, Nat.add_right_comm]; rfl
      obtain ⟨I3, d1, d2, d3, d4, d5⟩ := ihi (h + 1) m I2 eh' (Nat.lt_of_succ_lt_succ hm') (hS.keep (a3.trans b2)) (hA.low lo) b3 (by rw [b4, mr, Nat.max_assoc])
      refine ⟨I3, ?_, (a3.trans b2).trans d2, d3, d4, fun y hy => by rw [d5 y hy, lo y hy]⟩
      rw [fx_s, bd_13_3, hS.i5, if_pos lt, a1, Option.bind_some]
      dsimp only
      rw [one, b1, Option.bind_some, two]
      exact d1
theorem f13_s {n : Nat} (hn : n ≤ 6) : ∀ (j k f : Nat) (L : List (Nat × Nat)) (most : Nat) (I : Nat → Nat → Int32), k + j = n → j < f → SetP C H N M w K S Y I → AR C M k L I → I 85 3 = nI n → I 85 4 = nI most → most ≤ 60 → ∃ I', fx (fun _ _ _ => none) fb_13 f (nI k) (nI L.length) I = some I' ∧ Keep I I' ∧ I' 85 3 = nI n ∧ I' 85 4 = nI (max most (mx C H (max N 1) M K S Y j k L)) ∧ (∀ y, y < (k + 1) * 60 → I' 86 y = I 86 y) := by
  intro j
  induction j with
  | zero =>
    intro k f L most I e hf hS hA h3 h4 hm
    cases f with
    | zero => omega
    | succ f =>
      have l60 := hA.1
      obtain rfl : k = n := by omega
      rw [mx]
      by_cases q : most < L.length
      · refine ⟨up I 85 4 (nI L.length), ?_, Keep.fr ((Fr.refl [85] I).up (by decide)) (by decide), by rw [up_nk (by decide)]; exact h3, by rw [up_at, Nat.max_eq_right (by omega)], fun y _ => by rw [up_ne (by decide)]⟩
        rw [fx_s, fb_13, h4, h3, if_pos ((ltN (by omega) (by omega)).mpr q), if_neg (Int32.lt_irrefl (a := nI k))]
      · refine ⟨I, ?_, Keep.refl I, h3, by rw [h4, Nat.max_eq_left (by omega)], fun _ _ => rfl⟩
        rw [fx_s, fb_13, h4, if_neg (fun z => q ((ltN (by omega) (by omega)).mp z))]
  | succ j ih =>
    intro k f L most I e hf hS hA h3 h4 hm
    cases f with
    | zero => omega
    | succ f =>
      have l60 := hA.1
      have hk : k < 6 := by omega
      by_cases q : most < L.length
      · have g60 : ∀ h, (fun h => mx C H (max N 1) M K S Y j (k + 1) (stL C H (max N 1) M K S Y k h L)) h ≤ 60 := fun h => Nat.le_trans (Nat.le_trans (mx_len j (k + 1) _) (stL_len k h L)) l60
        have hH6 := hS.ch.2.1
        have ek : k + 1 + j = n := by omega
        have ef : j < f := by omega
        obtain ⟨I', a1, a2, a3, a4, a5⟩ := f13_in (f := f) (n := n) (most := most) (L := L) hk hm (fun h => mx C H (max N 1) M K S Y j (k + 1) (stL C H (max N 1) M K S Y k h L)) g60 (fun h m I _ s1 s2 s3 s4 s5 => ih (k + 1) f (stL C H (max N 1) M K S Y k h L) m I ek ef s1 s2 s3 s4 s5) H 0 FU I (Nat.zero_add H) (FU_big (Nat.lt_of_le_of_lt hH6 (by decide))) hS hA h3 (by rw [mr, Nat.max_eq_left (Nat.zero_le _)]; exact h4)
        refine ⟨I', ?_, a2, a3, by rw [mx]; exact a4, a5⟩
        rw [fx_s, fb_13, h4, h3, if_pos ((ltN (by omega) (by omega)).mpr q), if_pos ((ltN (by omega) (by omega)).mpr (by omega))]
        exact a1
      · have ml : mx C H (max N 1) M K S Y (j + 1) k L ≤ most := Nat.le_trans (mx_len (j + 1) k L) (Nat.le_of_not_lt q)
        refine ⟨I, ?_, Keep.refl I, h3, by rw [h4, Nat.max_eq_left ml], fun _ _ => rfl⟩
        rw [fx_s, fb_13, h4, if_neg (fun z => q ((ltN (by omega) (by omega)).mp z))]
theorem FlL0 (M : Nat) : ∀ n, (FlL M (fun c => (c, 0)) n).length = n ∧ ∀ i, i < n → (FlL M (fun c => (c, 0)) n).getD i (0, 0) = (i, 0)
  | 0 => ⟨rfl, fun i hi => absurd hi (Nat.not_lt_zero i)⟩
  | n + 1 => by
    obtain ⟨h1, h2⟩ := FlL0 M n
    rw [FlL, if_pos (Nat.zero_le _)]
    refine ⟨by rw [List.length_append, h1]; rfl, fun i hi => ?_⟩
    by_cases z : i = n
    · rw [z, List.getD_eq_getElem?_getD, List.getElem?_append_right (by omega), h1, Nat.sub_self]
      rfl
    · have := h2 i (by omega)
      rw [List.getD_eq_getElem?_getD] at this
      rw [List.getD_eq_getElem?_getD, List.getElem?_append_left (by omega)]
      exact this
theorem f12_s {n : Nat} (hS : SetP C H N M w K S Y I) (hn : n ≤ 6) : ∃ I', f_12 (nI n) I = some (nI (mx C H (max N 1) M K S Y n 0 (FlL M (fun c => (c, 0)) C)), I') ∧ Keep I I' := by
  obtain ⟨c1, c2, c3, c4⟩ := hS.ch
  obtain ⟨l1, l2⟩ := FlL0 M C
  have loop : ∀ (j c m : Nat) (I : Nat → Nat → Int32), c + j = C → j < m → SetP C H N M w K S Y I → I 85 3 = nI n → I 85 4 = nI 0 → (∀ x, x < c → I 86 x = nI x) → ∃ I', fx (fun _ _ => none) bd_12_1 m (nI c) I = some (nI (mx C H (max N 1) M K S Y n 0 (FlL M (fun c => (c, 0)) C)), I') ∧ Keep I I' := by
    intro j
    induction j with
    | zero =>
      intro c m I e hm hS h3 h4 hx
      cases m with
      | zero => omega
      | succ m =>
        obtain rfl : c = C := by omega
        obtain ⟨I', a1, a2, a3, a4, a5⟩ := f13_s (C := c) (H := H) (N := N) (M := M) (w := w) (K := K) (S := S) (Y := Y) hn n 0 8 (FlL M (fun c => (c, 0)) c) 0 I (by omega) (by omega) hS ⟨by omega, fun i hi => by
          rw [l2 i (by omega)]
          refine ⟨by dsimp only; omega, Nat.zero_le M, ?_⟩
          rw [Nat.zero_mul, Nat.zero_add]
          dsimp only
          rw [Nat.zero_mul, Nat.zero_add]
          exact hx i (by omega)⟩ h3 h4 (by omega)
        rw [l1] at a1
        rw [Nat.max_eq_right (Nat.zero_le _)] at a4
        refine ⟨I', ?_, a2⟩
        rw [fx_s, bd_12_1, hS.i4, if_neg (Int32.lt_irrefl (a := nI c)), show f_13 (0 : Int32) (nI c) I = some I' from a1, Option.bind_some, a4]
    | succ j ih =>
      intro c m I e hm hS h3 h4 hx
      cases m with
      | zero => omega
      | succ m =>
        have k1 : Keep I (up I 86 c (nI c)) := Keep.fr ((Fr.refl [86] I).up (by decide)) (by decide)
        obtain ⟨I', a1, a2⟩ := ih (c + 1) m (up I 86 c (nI c)) (by omega) (by omega) (hS.keep k1) (by rw [up_ne (by decide)]; exact h3) (by rw [up_ne (by decide)]; exact h4) (fun x hx' => by
          rw [up_eq]
          split
          · next z => rw [z]
          · exact hx x (by omega))
        refine ⟨I', ?_, k1.trans a2⟩
        have one : nI c + (1 : Int32) = nI (c + 1) := addN c 1
        rw [fx_s, bd_12_1, hS.i4, if_pos ((ltN (by omega) (by omega)).mpr (by omega)), puN (by omega) (by omega), one]
        exact a1
  have k0 : Keep I (up (up I 85 3 (nI n)) 85 4 (nI 0)) := Keep.fr (((Fr.refl [85] I).up (by decide)).up (by decide)) (by decide)
  obtain ⟨I', a1, a2⟩ := loop C 0 FU _ (by omega) (FU_big (by omega)) (hS.keep k0) (by rw [up_nk (by decide), up_at]) up_at (fun x hx => absurd hx (Nat.not_lt_zero x))
  exact ⟨I', a1, k0.trans a2⟩
/-- the most left, by rows -/
def wrs (C H R M : Nat) (K S : Nat → Nat) (Y : Nat → Nat → Nat) (n r : Nat) : Nat := fitN M (fun c => (rnF (C := C) (H := H) (R := R) (K := K) (S := S) (Y := Y) n 0 r (fun c => (c, 0)) c).2) C
theorem mx_wrs (hH : 0 < H) (n R : Nat) : mx C H R M K S Y n 0 (FlL M (fun c => (c, 0)) C) = mr (wrs C H R M K S Y n) (H ^ n) := by
  rw [mx_run hH]
  congr 1
  funext r
  rw [run_F, FlL_fit, wrs]
end WD
