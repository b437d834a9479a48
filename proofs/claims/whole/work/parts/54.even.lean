/-! evenings, weighings -/
section EV
variable {C H N M w : Nat} {K S : Nat → Nat} {Y : Nat → Nat → Nat} {I : Nat → Nat → Int32}
theorem dr1 (x : Int32) : ((x.toUInt32 >>> (((16 : Int32)).toUInt32 &&& Int32.toUInt32 31)).toInt32 &&& (32767 : Int32)) = nI (x.toBitVec.toNat / 65536 % 32768) := by
  rw [pk_and _ 15 (by decide), pk_ushr _ _ 16 (by decide)]
theorem dr2 (x : Int32) : ((x >>> ((16 : Int32) &&& 31)) &&& (32767 : Int32)) = nI (x.toBitVec.toNat / 65536 % 32768) := by
  have e : (x >>> ((16 : Int32) &&& 31)).toInt = x.toInt >>> 16 := pk_shr x _ 16 (by decide)
  rw [pk_and _ 15 (by decide)]
  congr 1
  have h1 : x.toInt = if 2 * x.toBitVec.toNat < 2 ^ 32 then (x.toBitVec.toNat : Int) else (x.toBitVec.toNat : Int) - 2 ^ 32 := BitVec.toInt_eq_toNat_cond x.toBitVec
  have h2 : (x >>> ((16 : Int32) &&& 31)).toInt = if 2 * (x >>> ((16 : Int32) &&& 31)).toBitVec.toNat < 2 ^ 32 then ((x >>> ((16 : Int32) &&& 31)).toBitVec.toNat : Int) else ((x >>> ((16 : Int32) &&& 31)).toBitVec.toNat : Int) - 2 ^ 32 := BitVec.toInt_eq_toNat_cond (x >>> ((16 : Int32) &&& 31)).toBitVec
  have h3 := x.toBitVec.isLt
  have h4 := (x >>> ((16 : Int32) &&& 31)).toBitVec.isLt
  rw [Int.shiftRight_eq_div_pow] at e
  rw [h1] at e
  rw [e] at h2
  generalize (x >>> ((16 : Int32) &&& 31)).toBitVec.toNat = y at h2 h4
  generalize x.toBitVec.toNat = z at h2 h3
  split at h2
  · split at h2 <;> omega
  · split at h2 <;> omega
/-- evenings, as both count them -/
def evr (C w : Nat) (e : Nat → Nat) : Nat → Int32 → Nat → Nat
  | 0, _, v => v
  | j + 1, x, v => evr C w e j (x * 1103515245 + 12345) (if e ((x * 1103515245 + 12345).toBitVec.toNat / 65536 % 32768 % C) = w then v + 1 else v)
theorem ev_c {n k : Nat} (hn : n ≤ 60) (hk : k ≤ 60) (h : SetP C H N M w K S Y I) : ∀ (j i m v : Nat) (x : Int32), i + j = k → j < m → fx (fun _ _ _ _ _ _ => none) bd_110_3 m (nI k) (nI n) x (nI v) (nI i) I = some (.inl (nI (evr C w (en C H (max N 1) K S Y n) j x v)))
  | _, _, 0, _, _, _, h => absurd h (Nat.not_lt_zero _)
  | 0, i, m + 1, v, x, e, _ => by
    obtain rfl : i = k := by omega
    rw [fx_s, bd_110_3, evr]
    simp (disch := omega) only [ltN, Nat.lt_irrefl, if_false]
  | j + 1, i, m + 1, v, x, e, hm => by
    obtain ⟨c1, c2, c3, c4⟩ := h.ch
    have w59 := h.2.2.2.1
    have hi : i < k := by omega
    have l1 : (x * 1103515245 + 12345).toBitVec.toNat / 65536 % 32768 < 2147483648 := by omega
    have l2 : (x * 1103515245 + 12345).toBitVec.toNat / 65536 % 32768 % C < C := Nat.mod_lt _ (by omega)
    have l3 := h.en_lt l2 n
    have i7 : I 79 7 = nI w := h.2.2.2.2.2.1.2.2.2.1
    rw [fx_s, bd_110_3, dr1, h.i4, f125N l1 (by omega) (by omega), Option.bind_some, h.f55 l2 hn, Option.bind_some, evr, i7]
    unfold lb_110_4
    rw [if_pos ((ltN (by omega) (by omega)).mpr hi)]
    by_cases q : en C H (max N 1) K S Y n ((x * 1103515245 + 12345).toBitVec.toNat / 65536 % 32768 % C) = w
    · rw [if_pos q, if_pos ((eqN (by omega) (by omega)).mpr q), ← ev_c hn hk h j (i + 1) m (v + 1) _ (by omega) (by omega)]
      simp only [nI_1]
    · rw [if_neg q, if_neg (fun z => q ((eqN (by omega) (by omega)).mp z)), ← ev_c hn hk h j (i + 1) m v _ (by omega) (by omega)]
      simp only [nI_1]
theorem ev_m {n k : Nat} (hk : k ≤ 60) (h : SetP C H N M w K S Y I) (he : ∀ q, q < C → I 116 q = nI (en C H (max N 1) K S Y n q)) : ∀ (j i m v : Nat) (x : Int32), i + j = k → j < m → fx (fun _ _ _ _ _ => none) bd_206_3 m (nI k) x (nI v) (nI i) I = some (nI (evr C w (en C H (max N 1) K S Y n) j x v), I)
  | _, _, 0, _, _, _, h => absurd h (Nat.not_lt_zero _)
  | 0, i, m + 1, v, x, e, _ => by
    obtain rfl : i = k := by omega
    rw [fx_s, bd_206_3, evr]
    simp (disch := omega) only [ltN, Nat.lt_irrefl, if_false]
  | j + 1, i, m + 1, v, x, e, hm => by
    obtain ⟨c1, c2, c3, c4⟩ := h.ch
    have w59 := h.2.2.2.1
    have hi : i < k := by omega
    obtain ⟨X, hX⟩ : ∃ X, X = x * 1103515245 + 12345 := ⟨_, rfl⟩
    rw [fx_s, bd_206_3, evr, ← hX, dr2, h.m1]
    have l1 : X.toBitVec.toNat / 65536 % 32768 < 2147483648 := by omega
    generalize X.toBitVec.toNat / 65536 % 32768 = v0 at l1
    have l2 : v0 % C < C := Nat.mod_lt _ (by omega)
    have l4 : v0 % C < 2147483648 := by omega
    have l5 : v0 % C < 60 := by omega
    have l3 := h.en_lt l2 n
    have i5 : I 97 5 = nI w := h.2.2.2.2.2.2.2.2.2.1.2.2.2.2
    have z : ¬ nI C = 0 := by
      show ¬ nI C = nI 0
      rw [eqN (by omega) (by omega)]
      omega
    rw [remN l1 (by omega) (by omega)]
    simp only [clN l4, he _ l2, i5]
    rw [if_pos ((ltN (by omega) (by omega)).mpr hi), if_neg z, if_pos ((inN l4).mpr l5)]
    unfold lb_206_5
    by_cases q : en C H (max N 1) K S Y n (v0 % C) = w
    · rw [if_pos q, if_pos ((eqN (by omega) (by omega)).mpr q), ← ev_m hk h he j (i + 1) m (v + 1) _ (by omega) (by omega)]
      simp only [nI_1]
    · rw [if_neg q, if_neg (fun z => q ((eqN (by omega) (by omega)).mp z)), ← ev_m hk h he j (i + 1) m v _ (by omega) (by omega)]
      simp only [nI_1, Int32.add_zero]
theorem evenings_s (h : SetP C H N M w K S Y I) (x1 x2 x3 : Int32) : ∃ q b I2, f_110 x1 x2 x3 I = some q ∧ f_206 x1 x2 x3 I = some (b, I2) ∧ Keep I I2 ∧ OKq cdI q b (I2 97 0) := by
  have h0 := h.up0 (nI 0)
  have z0 : (up I 97 0 (nI 0)) 97 0 = nI 0 := up_at
  have k0 := (Keep.refl I).up0 (nI 0)
  have bad1 : OKq cdI (.inr 0) (nI 0) ((up (up I 97 0 (nI 0)) 97 0 (nI 1)) 97 0) := by rw [up_at]; exact ⟨rfl, by decide, by decide⟩
  rcases ixw x2 0 60 (by omega) (by omega) with ⟨k, _, hk, rfl⟩ | o2
  · rcases ixw x3 0 60 (by omega) (by omega) with ⟨n, _, hn, rfl⟩ | o3
    · obtain ⟨I1, r1, r2, r3, r4⟩ := h0.f183 hn
      refine ⟨.inl (nI (evr C w (en C H (max N 1) K S Y n) k x1 0)), nI (evr C w (en C H (max N 1) K S Y n) k x1 0), I1, ?_, ?_, k0.trans r2, by rw [r3, z0]; exact ⟨rfl, rfl⟩⟩
      · unfold f_110
        simp only [lits, f122_y (Nat.zero_le k) hk (by omega), f122_y (Nat.zero_le n) hn (by omega), Option.bind_some, e10, if_false]
        exact ev_c hn hk h k 0 FU 0 x1 (by omega) (FU_big (by omega))
      · unfold f_206
        simp only [lits, f133_y (Nat.zero_le k) hk (by omega), f132_y z0, f178_y z0 hn, r1, Option.bind_some, e10, if_false]
        exact ev_m hk (h0.keep r2) r4 k 0 FU 0 x1 (by omega) (FU_big (by omega))
    · refine ⟨.inr 0, nI 0, _, ?_, ?_, k0.up0 (nI 1), bad1⟩
      · unfold f_110 lb_110_1
        simp only [lits, f122_y (Nat.zero_le k) hk (by omega), f122_n o3, Option.bind_some, e10, if_false, if_true]
      · unfold f_206 lb_206_1
        simp only [lits, f133_y (Nat.zero_le k) hk (by omega), f132_y z0, f178_n (w := 1) z0 (by decide) (by decide) o3, Option.bind_some, e10, if_false, if_true]
  · refine ⟨.inr 0, nI 0, _, ?_, ?_, k0.up0 (nI 1), bad1⟩
    · unfold f_110 lb_110_1
      simp only [lits, f122_n o2, Option.bind_some, if_true]
    · unfold f_206 lb_206_1
      simp only [lits, f133_n o2, f132_n (w := 1) z0 (by decide) (by decide), Option.bind_some, if_true]
/-- weighings -/
def wgr (d : Nat) : Nat → Nat → Nat
  | 0, n => n
  | j + 1, n => if 3 ^ n < d then wgr d j (n + 1) else n
theorem wg_c {d : Nat} (hd : d ≤ 2003) : ∀ (j n m : Nat), n + j = 7 → j < m → fx (fun _ _ _ => none) bd_111_5 m (nI d) (nI (3 ^ n)) (nI n) = some (.inl (nI (wgr d j n)))
  | _, _, 0, _, h => absurd h (Nat.not_lt_zero _)
  | 0, n, m + 1, e, _ => by
    obtain rfl : n = 7 := by omega
    have q : ¬ 3 ^ 7 < d := by omega
    have q2 : 7 < 1000 := by omega
    rw [fx_s, bd_111_5, wgr]
    simp (disch := omega) only [lits, ltN, q, q2, if_true, if_false]
  | j + 1, n, m + 1, e, hm => by
    have h3 : 3 ^ n ≤ 3 ^ 7 := Nat.pow_le_pow_right (by decide) (by omega)
    have q2 : n < 1000 := by omega
    have h37 : 3 ^ 7 = 2187 := by decide
    rw [h37] at h3
    rw [fx_s, bd_111_5, wgr]
    by_cases q : 3 ^ n < d
    · rw [if_pos q, ← wg_c hd j (n + 1) m (by omega) (by omega), Nat.pow_succ]
      simp (disch := omega) only [lits, ltN, q, q2, if_true, addN, mulN]
    · rw [if_neg q]
      simp (disch := omega) only [lits, ltN, q, q2, if_true, if_false]
theorem wg_m {c : Nat} (x2 : Int32) (hc : c ≤ 1000) : ∀ (j n m : Nat), n + j = 7 → j < m → fx (fun _ _ _ _ _ => none) bd_207_3 m (nI c) x2 (nI n) (nI (3 ^ n)) I = some (nI (wgr (if x2 = 0 then 2 * c + 3 else c) j n), I)
  | _, _, 0, _, h => absurd h (Nat.not_lt_zero _)
  | j, n, m + 1, e, hm => by
    have h3 : 3 ^ n ≤ 3 ^ 7 := Nat.pow_le_pow_right (by decide) (by omega)
    have h37 : 3 ^ 7 = 2187 := by decide
    rw [h37] at h3
    have lt2 : (nI (3 ^ n) - nI 3) < nI (2 * c) ↔ 3 ^ n < 2 * c + 3 := by
      rw [Int32.lt_iff_toInt_lt, pk_sub_toInt (by omega) (by omega), nI_toInt (by omega)]
      omega
    have key : fx (fun _ _ _ _ _ => none) bd_207_3 (m + 1) (nI c) x2 (nI n) (nI (3 ^ n)) I = if 3 ^ n < (if x2 = 0 then 2 * c + 3 else c) then fx (fun _ _ _ _ _ => none) bd_207_3 m (nI c) x2 (nI (n + 1)) (nI (3 ^ (n + 1))) I else some (nI n, I) := by
      rw [fx_s, bd_207_3, Nat.pow_succ]
      unfold lb_207_5 lb_207_6
      by_cases q : x2 = 0
      · rw [if_pos q, if_pos q]
        simp (disch := omega) only [lits, mulN, lt2, addN]
      · rw [if_neg q, if_neg q]
        simp (disch := omega) only [lits, mulN, ltN, addN]
    rw [key]
    cases j with
    | zero =>
      obtain rfl : n = 7 := by omega
      rw [wgr, if_neg]
      rw [h37]
      split <;> omega
    | succ j =>
      rw [wgr]
      by_cases q : 3 ^ n < (if x2 = 0 then 2 * c + 3 else c)
      · rw [if_pos q, if_pos q]
        exact wg_m x2 hc j (n + 1) m (by omega) (by omega)
      · rw [if_neg q, if_neg q]
theorem weigh_s (h : SetP C H N M w K S Y I) (x1 x2 : Int32) : ∃ q b I2, f_111 x1 x2 = some q ∧ f_207 x1 x2 I = some (b, I2) ∧ Keep I I2 ∧ OKq cdI q b (I2 97 0) := by
  have z0 : (up I 97 0 (nI 0)) 97 0 = nI 0 := up_at
  have k0 := (Keep.refl I).up0 (nI 0)
  rcases ixw x1 1 1000 (by omega) (by omega) with ⟨c, hc1, hc, rfl⟩ | o1
  · have hm := wg_m (I := up I 97 0 (nI 0)) x2 hc 7 0 FU rfl (FU_big (by omega))
    have t1 : f_207 (nI c) x2 I = if x2 = 0 then (if c < 3 then some (-1, up I 97 0 (nI 0)) else some (nI (wgr (2 * c + 3) 7 0), up I 97 0 (nI 0))) else some (nI (wgr c 7 0), up I 97 0 (nI 0)) := by
      unfold f_207
      by_cases q : x2 = 0
      · rw [if_pos q] at hm ⊢
        have q' : x2 = nI 0 := q
        simp (disch := omega) only [lits, f133_y hc1 hc (by omega), f132_y z0, Option.bind_some, e10, if_false, q', if_true, ltN]
        rw [q'] at hm
        have hm' : lb_207_2 (nI c) (nI 0) (up I 97 0 (nI 0)) = some (nI (wgr (2 * c + 3) 7 0), up I 97 0 (nI 0)) := hm
        rw [hm']
      · rw [if_neg q] at hm ⊢
        have q' : ¬ x2 = nI 0 := q
        simp (disch := omega) only [lits, f133_y hc1 hc (by omega), f132_y z0, Option.bind_some, e10, if_false, q']
        exact hm
    have t2 : f_111 (nI c) x2 = if x2 = 0 then (if c < 3 then some (.inl (-1)) else some (.inl (nI (wgr (2 * c + 3) 7 0)))) else some (.inl (nI (wgr c 7 0))) := by
      have w1 := wg_c (d := c) (by omega) 7 0 FU rfl (FU_big (by omega))
      have w2 := wg_c (d := 2 * c + 3) (by omega) 7 0 FU rfl (FU_big (by omega))
      unfold f_111 lb_111_2
      by_cases q : x2 = 0
      · rw [if_pos q]
        have q' : x2 = nI 0 := q
        simp (disch := omega) only [lits, f122_y hc1 hc (by omega), Option.bind_some, e10, if_false, q', if_true, ltN, mulN, addN]
        have w2' : lb_111_4 (nI (2 * c + 3)) = some (.inl (nI (wgr (2 * c + 3) 7 0))) := w2
        rw [w2']
      · rw [if_neg q]
        have q' : ¬ x2 = nI 0 := q
        simp (disch := omega) only [lits, f122_y hc1 hc (by omega), Option.bind_some, e10, if_false, q']
        exact w1
    rw [t1, t2]
    by_cases q : x2 = 0
    · rw [if_pos q, if_pos q]
      by_cases q2 : c < 3
      · rw [if_pos q2, if_pos q2]
        exact ⟨_, _, _, rfl, rfl, k0, by rw [z0]; exact ⟨rfl, rfl⟩⟩
      · rw [if_neg q2, if_neg q2]
        exact ⟨_, _, _, rfl, rfl, k0, by rw [z0]; exact ⟨rfl, rfl⟩⟩
    · rw [if_neg q, if_neg q]
      exact ⟨_, _, _, rfl, rfl, k0, by rw [z0]; exact ⟨rfl, rfl⟩⟩
  · refine ⟨.inr 0, nI 0, up (up I 97 0 (nI 0)) 97 0 (nI 1), ?_, ?_, k0.up0 (nI 1), by rw [up_at]; exact ⟨rfl, by decide, by decide⟩⟩
    · unfold f_111
      simp only [lits, f122_n o1, Option.bind_some, if_true]
    · unfold f_207
      simp only [lits, f133_n o1, f132_n (w := 1) z0 (by decide) (by decide), Option.bind_some, if_true]
end EV
