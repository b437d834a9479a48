/-! Longs and bits (the rows wb_ began in kit/laws/BITS.to-paste) -/
theorem wb_tb (n : Nat) : (lN n).toBitVec = BitVec.ofNat 64 n := rfl
theorem wb_inj {a b : Int64} (h : a.toBitVec = b.toBitVec) : a = b := Int64.toBitVec_inj.mp h
theorem wb_tn {n : Nat} (h : n < 2 ^ 64) : (lN n).toBitVec.toNat = n := by rw [wb_tb, BitVec.toNat_ofNat, Nat.mod_eq_of_lt h]
theorem wb_of (x : Int64) : ∃ n, n < 2 ^ 64 ∧ x = lN n := ⟨x.toBitVec.toNat, x.toBitVec.isLt, wb_inj (by rw [wb_tb]; simp)⟩
theorem wb_of32 (x : Int32) : ∃ n, n < 2 ^ 32 ∧ x = nI n := ⟨x.toBitVec.toNat, x.toBitVec.isLt, Int32.toBitVec_inj.mp (by show _ = BitVec.ofNat 32 _; simp)⟩
theorem wb_c : ∀ k, k < 64 → ((nI k).toInt64 &&& 63) = lN k := by decide +kernel
theorem wb_cu : ∀ k, k < 64 → ((nI k).toInt64.toUInt64 &&& Int64.toUInt64 63) = UInt64.ofNat k := by decide +kernel
theorem wb_sm : ∀ k, k < 64 → (BitVec.ofNat 64 k).smod 64 = BitVec.ofNat 64 k := by decide +kernel
theorem wb_pw {a b : Nat} (h : a ≤ b) : 2 ^ b = 2 ^ a * 2 ^ (b - a) := by rw [← Nat.pow_add]; congr 1; omega
theorem wb_lt2 {a b : Nat} (h : a < b) : 2 ^ a < 2 ^ b := Nat.pow_lt_pow_right (by decide) h
theorem wb_mod (n : Nat) : lN n = lN (n % 2 ^ 64) := wb_inj (by rw [wb_tb, wb_tb]; apply BitVec.eq_of_toNat_eq; rw [BitVec.toNat_ofNat, BitVec.toNat_ofNat, Nat.mod_mod])
theorem wb_shr {n k : Nat} (hn : n < 2 ^ 64) (hk : k < 64) : ((lN n).toUInt64 >>> ((nI k).toInt64.toUInt64 &&& Int64.toUInt64 63)).toInt64 = lN (n / 2 ^ k) := by
  rw [wb_cu k hk]
  apply wb_inj
  apply BitVec.eq_of_toNat_eq
  show ((lN n).toUInt64 >>> UInt64.ofNat k).toNat = (BitVec.ofNat 64 _).toNat
  have h1 : (UInt64.ofNat k).toNat = k := by
    show (BitVec.ofNat 64 k).toNat = k
    rw [BitVec.toNat_ofNat, Nat.mod_eq_of_lt (by omega)]
  have h2 : (lN n).toUInt64.toNat = n := wb_tn hn
  rw [UInt64.toNat_shiftRight, h1, h2, Nat.mod_eq_of_lt hk, Nat.shiftRight_eq_div_pow, BitVec.toNat_ofNat, Nat.mod_eq_of_lt (Nat.lt_of_le_of_lt (Nat.div_le_self _ _) hn)]
theorem wb_shl (n : Nat) {k : Nat} (hk : k < 64) : lN n <<< ((nI k).toInt64 &&& 63) = lN (n * 2 ^ k) := by
  rw [wb_c k hk]
  apply wb_inj
  rw [Int64.toBitVec_shiftLeft, wb_tb, wb_tb, wb_tb, wb_sm k hk]
  apply BitVec.eq_of_toNat_eq
  rw [BitVec.shiftLeft_eq', BitVec.toNat_shiftLeft, BitVec.toNat_ofNat, BitVec.toNat_ofNat, BitVec.toNat_ofNat, Nat.mod_eq_of_lt (show k < 2 ^ 64 by omega), Nat.shiftLeft_eq, Nat.mul_mod, Nat.mod_mod, ← Nat.mul_mod]
theorem wb_and {a b : Nat} (ha : a < 2 ^ 64) (hb : b < 2 ^ 64) : lN a &&& lN b = lN (a &&& b) := by
  apply wb_inj
  rw [Int64.toBitVec_and, wb_tb, wb_tb, wb_tb]
  apply BitVec.eq_of_toNat_eq
  rw [BitVec.toNat_and, BitVec.toNat_ofNat, BitVec.toNat_ofNat, BitVec.toNat_ofNat, Nat.mod_eq_of_lt ha, Nat.mod_eq_of_lt hb, Nat.mod_eq_of_lt (Nat.and_lt_two_pow _ hb)]
theorem wb_or {a b : Nat} (ha : a < 2 ^ 64) (hb : b < 2 ^ 64) : lN a ||| lN b = lN (a ||| b) := by
  apply wb_inj
  rw [Int64.toBitVec_or, wb_tb, wb_tb, wb_tb]
  apply BitVec.eq_of_toNat_eq
  rw [BitVec.toNat_or, BitVec.toNat_ofNat, BitVec.toNat_ofNat, BitVec.toNat_ofNat, Nat.mod_eq_of_lt ha, Nat.mod_eq_of_lt hb, Nat.mod_eq_of_lt (Nat.or_lt_two_pow ha hb)]
theorem wb_mask {n k : Nat} (hn : n < 2 ^ 64) (hk : k < 64) : lN n &&& lN (2 ^ k - 1) = lN (n % 2 ^ k) := by
  rw [wb_and hn (by have := wb_lt2 hk; omega), Nat.and_two_pow_sub_one_eq_mod]
theorem wb_a1 {n : Nat} (hn : n < 2 ^ 64) : lN n &&& 1 = lN (n % 2) := wb_mask (k := 1) hn (by decide)
theorem wb_bit {n k : Nat} (hn : n < 2 ^ 64) (hk : k < 64) : ((lN n).toUInt64 >>> ((nI k).toInt64.toUInt64 &&& Int64.toUInt64 63)).toInt64 &&& 1 = lN (n / 2 ^ k % 2) := by
  rw [wb_shr hn hk, wb_a1 (Nat.lt_of_le_of_lt (Nat.div_le_self _ _) hn)]
theorem tb_add (lo hi : Nat) (h : lo < 256) (j : Nat) : (lo + 256 * hi).testBit j = if j < 8 then lo.testBit j else hi.testBit (j - 8) := by
  rw [Nat.add_comm]
  exact Nat.testBit_two_pow_mul_add hi (i := 8) h j
theorem and_split {lo hi m M : Nat} (h1 : lo < 256) (h2 : m < 256) : (lo + 256 * hi) &&& (m + 256 * M) = (lo &&& m) + 256 * (hi &&& M) := by
  apply Nat.eq_of_testBit_eq
  intro j
  have h3 : lo &&& m < 256 := Nat.and_lt_two_pow (n := 8) lo h2
  rw [Nat.testBit_and, tb_add lo hi h1, tb_add m M h2, tb_add _ _ h3]
  split
  · rw [Nat.testBit_and]
  · rw [Nat.testBit_and]
/-- a byte so many times -/
def mk8 (m : Nat) : Nat → Nat
  | 0 => 0
  | k + 1 => m + 256 * mk8 m k
/-- byte by byte -/
def mapb (g : Nat → Nat) : Nat → Nat → Nat
  | 0, _ => 0
  | k + 1, n => g (n % 256) + 256 * mapb g k (n / 256)
theorem mapb_lt {g : Nat → Nat} (hg : ∀ b, b < 256 → g b < 256) : ∀ k n, mapb g k n < 256 ^ k
  | 0, _ => by rw [mapb]; decide
  | k + 1, n => by
    have := mapb_lt hg k (n / 256)
    have h2 := hg (n % 256) (Nat.mod_lt _ (by decide))
    rw [mapb, Nat.pow_succ]
    omega
theorem mapb_mapb {g f : Nat → Nat} (hg : ∀ b, b < 256 → g b < 256) : ∀ k n, mapb f k (mapb g k n) = mapb (fun b => f (g b)) k n
  | 0, _ => rfl
  | k + 1, n => by
    have h2 := hg (n % 256) (Nat.mod_lt _ (by decide))
    rw [mapb, mapb, mapb, show (g (n % 256) + 256 * mapb g k (n / 256)) % 256 = g (n % 256) by omega, show (g (n % 256) + 256 * mapb g k (n / 256)) / 256 = mapb g k (n / 256) by omega, mapb_mapb hg k]
def g1 (b : Nat) : Nat := b - ((b / 2) &&& 85)
def g2 (b : Nat) : Nat := (b &&& 51) + ((b / 4) &&& 51)
def g3 (b : Nat) : Nat := (b + b / 16) &&& 15
theorem h_g1 : ∀ b, b < 256 → ∀ t, t < 2 → ((b / 2 + 128 * t) &&& 85) = ((b / 2) &&& 85) := by decide +kernel
theorem l_g1 : ∀ b, b < 256 → ((b / 2) &&& 85) ≤ b ∧ g1 b < 256 := by decide +kernel
theorem h_g2 : ∀ b, b < 256 → ∀ t, t < 4 → ((b / 4 + 64 * t) &&& 51) = ((b / 4) &&& 51) := by decide +kernel
theorem l_g2 : ∀ b, b < 256 → g2 (g1 b) < 256 ∧ g2 (g1 b) % 16 ≤ 4 ∧ g2 (g1 b) / 16 ≤ 4 := by decide +kernel
theorem h_g3 : ∀ b, b < 137 → ∀ t, t < 5 → ((b + 16 * t) &&& 15) = (b &&& 15) := by decide +kernel
theorem sw1 : ∀ k n, n < 256 ^ k → ((n / 2) &&& mk8 85 k) ≤ n ∧ n - ((n / 2) &&& mk8 85 k) = mapb g1 k n
  | 0, n, h => by
    obtain rfl : n = 0 := by
      rw [Nat.pow_zero] at h
      omega
    exact ⟨by decide, rfl⟩
  | k + 1, n, h => by
    rw [Nat.pow_succ] at h
    have ih := sw1 k (n / 256) (by omega)
    have hl := Nat.mod_lt n (show 0 < 256 by decide)
    have e : n / 2 = (n % 256 / 2 + 128 * (n / 256 % 2)) + 256 * (n / 256 / 2) := by omega
    rw [e, mk8, and_split (by omega) (by decide), h_g1 _ hl _ (Nat.mod_lt _ (by decide)), mapb]
    have l1 := (l_g1 _ hl).1
    have eg : g1 (n % 256) = n % 256 - ((n % 256 / 2) &&& 85) := rfl
    omega
theorem sw2 : ∀ k n, n < 256 ^ k → (n &&& mk8 51 k) + ((n / 4) &&& mk8 51 k) = mapb g2 k n
  | 0, n, h => by
    obtain rfl : n = 0 := by
      rw [Nat.pow_zero] at h
      omega
    rfl
  | k + 1, n, h => by
    rw [Nat.pow_succ] at h
    have ih := sw2 k (n / 256) (by omega)
    have hl := Nat.mod_lt n (show 0 < 256 by decide)
    have e0 : n = n % 256 + 256 * (n / 256) := by omega
    have e : n / 4 = (n % 256 / 4 + 64 * (n / 256 % 4)) + 256 * (n / 256 / 4) := by omega
    rw [e, mk8, and_split (by omega) (by decide), h_g2 _ hl _ (Nat.mod_lt _ (by decide)), mapb]
    have e1 : n &&& (51 + 256 * mk8 51 k) = ((n % 256) &&& 51) + 256 * ((n / 256) &&& mk8 51 k) := by
      have := and_split (lo := n % 256) (hi := n / 256) (m := 51) (M := mk8 51 k) hl (by decide)
      rw [← e0] at this
      exact this
    rw [e1]
    have eg : g2 (n % 256) = ((n % 256) &&& 51) + ((n % 256 / 4) &&& 51) := rfl
    omega
theorem sw3 : ∀ k n, ((mapb (fun b => g2 (g1 b)) k n + mapb (fun b => g2 (g1 b)) k n / 16) &&& mk8 15 k) = mapb (fun b => g3 (g2 (g1 b))) k n ∧ mapb (fun b => g2 (g1 b)) k n % 16 ≤ 4
  | 0, n => ⟨by simp [mapb, mk8], by rw [mapb]; decide⟩
  | k + 1, n => by
    obtain ⟨i1, i2⟩ := sw3 k (n / 256)
    have hl := Nat.mod_lt n (show 0 < 256 by decide)
    obtain ⟨a1, a2, a3⟩ := l_g2 _ hl
    rw [mapb, mapb]
    generalize mapb (fun b => g2 (g1 b)) k (n / 256) = y at i1 i2
    generalize g2 (g1 (n % 256)) = x at a1 a2 a3
    refine ⟨?_, by omega⟩
    have e : x + 256 * y + (x + 256 * y) / 16 = (x + x / 16 + 16 * (y % 16)) + 256 * (y + y / 16) := by omega
    have xl : x + x / 16 < 137 := by omega
    rw [e, mk8, and_split (by omega) (by decide), h_g3 _ xl _ (by omega), i1]
    rfl
/-- how many bits are set -/
def pc : Nat → Nat → Nat
  | 0, _ => 0
  | k + 1, n => n % 2 + pc k (n / 2)
theorem pc8 : ∀ b, b < 256 → g3 (g2 (g1 b)) = pc 8 b ∧ pc 8 b ≤ 8 := by decide +kernel
theorem pc_mod : ∀ n, pc 8 n = pc 8 (n % 256) := by
  intro n
  simp only [pc]
  omega
theorem pc_byte (k n : Nat) : pc (k + 8) n = pc 8 (n % 256) + pc k (n / 256) := by
  rw [← pc_mod]
  simp only [pc]
  rw [show n / 2 / 2 / 2 / 2 / 2 / 2 / 2 / 2 = n / 256 by omega]
  omega
theorem sumb {d0 d1 d2 d3 d4 d5 d6 d7 : Nat} (q0 : d0 ≤ 8) (q1 : d1 ≤ 8) (q2 : d2 ≤ 8) (q3 : d3 ≤ 8) (q4 : d4 ≤ 8) (q5 : d5 ≤ 8) (q6 : d6 ≤ 8) (q7 : d7 ≤ 8) : ((d0 + 256 * (d1 + 256 * (d2 + 256 * (d3 + 256 * (d4 + 256 * (d5 + 256 * (d6 + 256 * (d7 + 256 * 0)))))))) + (d0 + 256 * (d1 + 256 * (d2 + 256 * (d3 + 256 * (d4 + 256 * (d5 + 256 * (d6 + 256 * (d7 + 256 * 0)))))))) / 256 + ((d0 + 256 * (d1 + 256 * (d2 + 256 * (d3 + 256 * (d4 + 256 * (d5 + 256 * (d6 + 256 * (d7 + 256 * 0)))))))) + (d0 + 256 * (d1 + 256 * (d2 + 256 * (d3 + 256 * (d4 + 256 * (d5 + 256 * (d6 + 256 * (d7 + 256 * 0)))))))) / 256) / 65536 + ((d0 + 256 * (d1 + 256 * (d2 + 256 * (d3 + 256 * (d4 + 256 * (d5 + 256 * (d6 + 256 * (d7 + 256 * 0)))))))) + (d0 + 256 * (d1 + 256 * (d2 + 256 * (d3 + 256 * (d4 + 256 * (d5 + 256 * (d6 + 256 * (d7 + 256 * 0)))))))) / 256 + ((d0 + 256 * (d1 + 256 * (d2 + 256 * (d3 + 256 * (d4 + 256 * (d5 + 256 * (d6 + 256 * (d7 + 256 * 0)))))))) + (d0 + 256 * (d1 + 256 * (d2 + 256 * (d3 + 256 * (d4 + 256 * (d5 + 256 * (d6 + 256 * (d7 + 256 * 0)))))))) / 256) / 65536) / 4294967296) % 128 = d0 + (d1 + (d2 + (d3 + (d4 + (d5 + (d6 + (d7 + 0))))))) := by
  obtain ⟨r7, h7⟩ : ∃ r, r = d7 + 256 * 0 := ⟨_, rfl⟩
  rw [← h7]
  obtain ⟨r6, h6⟩ : ∃ r, r = d6 + 256 * r7 := ⟨_, rfl⟩
  rw [← h6]
  obtain ⟨r5, h5⟩ : ∃ r, r = d5 + 256 * r6 := ⟨_, rfl⟩
  rw [← h5]
  obtain ⟨r4, h4⟩ : ∃ r, r = d4 + 256 * r5 := ⟨_, rfl⟩
  rw [← h4]
  obtain ⟨r3, h3⟩ : ∃ r, r = d3 + 256 * r4 := ⟨_, rfl⟩
  rw [← h3]
  obtain ⟨r2, h2⟩ : ∃ r, r = d2 + 256 * r3 := ⟨_, rfl⟩
  rw [← h2]
  obtain ⟨r1, h1⟩ : ∃ r, r = d1 + 256 * r2 := ⟨_, rfl⟩
  rw [← h1]
  obtain ⟨v, hv⟩ : ∃ r, r = d0 + 256 * r1 := ⟨_, rfl⟩
  rw [← hv]
  have e1 : v / 256 = r1 := by omega
  rw [e1]
  have e2 : (v + r1) / 65536 = r2 + r3 := by omega
  rw [e2]
  have e3 : (v + r1 + (r2 + r3)) / 4294967296 = r4 + r5 + r6 + r7 := by omega
  rw [e3]
  omega
theorem f210_s {n : Nat} (hn : n < 2 ^ 64) : f_210 (lN n) = some (nI (pc 64 n)) := by
  have c1 : ((1 : Int32)).toInt64.toUInt64 &&& Int64.toUInt64 63 = ((nI 1)).toInt64.toUInt64 &&& Int64.toUInt64 63 := rfl
  have p64 : (2 : Nat) ^ 64 = 256 ^ 8 := by decide
  have m55 : (6148914691236517205 : Nat) = mk8 85 8 := by decide
  have m33 : (3689348814741910323 : Nat) = mk8 51 8 := by decide
  have m0f : (1085102592571150095 : Nat) = mk8 15 8 := by decide
  obtain ⟨a1, a2⟩ := sw1 8 n (by omega)
  have b1 := mapb_lt (fun b hb => (l_g1 b hb).2) 8 n
  have b2 := sw2 8 (mapb g1 8 n) b1
  rw [mapb_mapb (fun b hb => (l_g1 b hb).2)] at b2
  have b3 : mapb (fun b => g2 (g1 b)) 8 n < 256 ^ 8 := mapb_lt (fun b hb => (l_g2 b hb).1) 8 n
  obtain ⟨c3, _⟩ := sw3 8 n
  have e1 : lN n - (((lN n).toUInt64 >>> (((1 : Int32)).toInt64.toUInt64 &&& Int64.toUInt64 63)).toInt64 &&& (lN 6148914691236517205)) = lN (mapb g1 8 n) := by
    have := wb_shr (k := 1) hn (by decide)
    rw [show ((lN n).toUInt64 >>> (((1 : Int32)).toInt64.toUInt64 &&& Int64.toUInt64 63)).toInt64 = lN (n / 2) from this, wb_and (by omega) (by decide), m55, lN_sub a1, a2]
  have e2 : (lN (mapb g1 8 n) &&& (lN 3689348814741910323)) + (((lN (mapb g1 8 n)).toUInt64 >>> (((2 : Int32)).toInt64.toUInt64 &&& Int64.toUInt64 63)).toInt64 &&& (lN 3689348814741910323)) = lN (mapb (fun b => g2 (g1 b)) 8 n) := by
    have := wb_shr (n := mapb g1 8 n) (k := 2) (by omega) (by decide)
    rw [show ((lN (mapb g1 8 n)).toUInt64 >>> (((2 : Int32)).toInt64.toUInt64 &&& Int64.toUInt64 63)).toInt64 = lN (mapb g1 8 n / 4) from this, wb_and (by omega) (by decide), wb_and (by omega) (by decide), m33, lN_add, b2]
  have v4 : mapb (fun b => g2 (g1 b)) 8 n + mapb (fun b => g2 (g1 b)) 8 n / 16 < 2 ^ 64 := by
    have : mapb (fun b => g2 (g1 b)) 8 n ≤ 4919131752989213764 := by
      simp only [mapb]
      have h0 := l_g2 _ (Nat.mod_lt n (show 0 < 256 by decide))
      have h1 := l_g2 _ (Nat.mod_lt (n / 256) (show 0 < 256 by decide))
      have h2 := l_g2 _ (Nat.mod_lt (n / 256 / 256) (show 0 < 256 by decide))
      have h3 := l_g2 _ (Nat.mod_lt (n / 256 / 256 / 256) (show 0 < 256 by decide))
      have h4 := l_g2 _ (Nat.mod_lt (n / 256 / 256 / 256 / 256) (show 0 < 256 by decide))
      have h5 := l_g2 _ (Nat.mod_lt (n / 256 / 256 / 256 / 256 / 256) (show 0 < 256 by decide))
      have h6 := l_g2 _ (Nat.mod_lt (n / 256 / 256 / 256 / 256 / 256 / 256) (show 0 < 256 by decide))
      have h7 := l_g2 _ (Nat.mod_lt (n / 256 / 256 / 256 / 256 / 256 / 256 / 256) (show 0 < 256 by decide))
      omega
    omega
  have e3 : (lN (mapb (fun b => g2 (g1 b)) 8 n) + ((lN (mapb (fun b => g2 (g1 b)) 8 n)).toUInt64 >>> (((4 : Int32)).toInt64.toUInt64 &&& Int64.toUInt64 63)).toInt64) &&& (lN 1085102592571150095) = lN (mapb (fun b => g3 (g2 (g1 b))) 8 n) := by
    have := wb_shr (n := mapb (fun b => g2 (g1 b)) 8 n) (k := 4) (by omega) (by decide)
    rw [show ((lN (mapb (fun b => g2 (g1 b)) 8 n)).toUInt64 >>> (((4 : Int32)).toInt64.toUInt64 &&& Int64.toUInt64 63)).toInt64 = lN (mapb (fun b => g2 (g1 b)) 8 n / 16) from this, lN_add, wb_and v4 (by decide), m0f, c3]
  have vE : mapb (fun b => g3 (g2 (g1 b))) 8 n = pc 8 (n % 256) + 256 * (pc 8 (n / 256 % 256) + 256 * (pc 8 (n / 256 / 256 % 256) + 256 * (pc 8 (n / 256 / 256 / 256 % 256) + 256 * (pc 8 (n / 256 / 256 / 256 / 256 % 256) + 256 * (pc 8 (n / 256 / 256 / 256 / 256 / 256 % 256) + 256 * (pc 8 (n / 256 / 256 / 256 / 256 / 256 / 256 % 256) + 256 * (pc 8 (n / 256 / 256 / 256 / 256 / 256 / 256 / 256 % 256) + 256 * 0))))))) := by
    simp only [mapb]
    rw [(pc8 _ (Nat.mod_lt n (show 0 < 256 by decide))).1, (pc8 _ (Nat.mod_lt (n / 256) (show 0 < 256 by decide))).1, (pc8 _ (Nat.mod_lt (n / 256 / 256) (show 0 < 256 by decide))).1, (pc8 _ (Nat.mod_lt (n / 256 / 256 / 256) (show 0 < 256 by decide))).1, (pc8 _ (Nat.mod_lt (n / 256 / 256 / 256 / 256) (show 0 < 256 by decide))).1, (pc8 _ (Nat.mod_lt (n / 256 / 256 / 256 / 256 / 256) (show 0 < 256 by decide))).1, (pc8 _ (Nat.mod_lt (n / 256 / 256 / 256 / 256 / 256 / 256) (show 0 < 256 by decide))).1, (pc8 _ (Nat.mod_lt (n / 256 / 256 / 256 / 256 / 256 / 256 / 256) (show 0 < 256 by decide))).1]
  have pE : pc 64 n = pc 8 (n % 256) + (pc 8 (n / 256 % 256) + (pc 8 (n / 256 / 256 % 256) + (pc 8 (n / 256 / 256 / 256 % 256) + (pc 8 (n / 256 / 256 / 256 / 256 % 256) + (pc 8 (n / 256 / 256 / 256 / 256 / 256 % 256) + (pc 8 (n / 256 / 256 / 256 / 256 / 256 / 256 % 256) + (pc 8 (n / 256 / 256 / 256 / 256 / 256 / 256 / 256 % 256) + 0))))))) := by
    rw [pc_byte 56, pc_byte 48, pc_byte 40, pc_byte 32, pc_byte 24, pc_byte 16, pc_byte 8, pc_mod (n / 256 / 256 / 256 / 256 / 256 / 256 / 256), Nat.add_zero]
  have q0 := (pc8 _ (Nat.mod_lt n (show 0 < 256 by decide))).2
  have q1 := (pc8 _ (Nat.mod_lt (n / 256) (show 0 < 256 by decide))).2
  have q2 := (pc8 _ (Nat.mod_lt (n / 256 / 256) (show 0 < 256 by decide))).2
  have q3 := (pc8 _ (Nat.mod_lt (n / 256 / 256 / 256) (show 0 < 256 by decide))).2
  have q4 := (pc8 _ (Nat.mod_lt (n / 256 / 256 / 256 / 256) (show 0 < 256 by decide))).2
  have q5 := (pc8 _ (Nat.mod_lt (n / 256 / 256 / 256 / 256 / 256) (show 0 < 256 by decide))).2
  have q6 := (pc8 _ (Nat.mod_lt (n / 256 / 256 / 256 / 256 / 256 / 256) (show 0 < 256 by decide))).2
  have q7 := (pc8 _ (Nat.mod_lt (n / 256 / 256 / 256 / 256 / 256 / 256 / 256) (show 0 < 256 by decide))).2
  have key : ∀ v : Nat, v ≤ 578721382704613384 → ((((lN v + ((lN v).toUInt64 >>> (((8 : Int32)).toInt64.toUInt64 &&& Int64.toUInt64 63)).toInt64) + ((lN v + ((lN v).toUInt64 >>> (((8 : Int32)).toInt64.toUInt64 &&& Int64.toUInt64 63)).toInt64).toUInt64 >>> (((16 : Int32)).toInt64.toUInt64 &&& Int64.toUInt64 63)).toInt64) + (((lN v + ((lN v).toUInt64 >>> (((8 : Int32)).toInt64.toUInt64 &&& Int64.toUInt64 63)).toInt64) + ((lN v + ((lN v).toUInt64 >>> (((8 : Int32)).toInt64.toUInt64 &&& Int64.toUInt64 63)).toInt64).toUInt64 >>> (((16 : Int32)).toInt64.toUInt64 &&& Int64.toUInt64 63)).toInt64).toUInt64 >>> (((32 : Int32)).toInt64.toUInt64 &&& Int64.toUInt64 63)).toInt64).toInt32 &&& (127 : Int32)) = nI ((v + v / 256 + (v + v / 256) / 65536 + (v + v / 256 + (v + v / 256) / 65536) / 4294967296) % 128) := by
    intro v hv
    have s8 : ((lN v).toUInt64 >>> (((8 : Int32)).toInt64.toUInt64 &&& Int64.toUInt64 63)).toInt64 = lN (v / 256) := wb_shr (k := 8) (by omega) (by decide)
    rw [s8, lN_add]
    have s16 : ((lN (v + v / 256)).toUInt64 >>> (((16 : Int32)).toInt64.toUInt64 &&& Int64.toUInt64 63)).toInt64 = lN ((v + v / 256) / 65536) := wb_shr (k := 16) (by omega) (by decide)
    rw [s16, lN_add]
    have s32 : ((lN (v + v / 256 + (v + v / 256) / 65536)).toUInt64 >>> (((32 : Int32)).toInt64.toUInt64 &&& Int64.toUInt64 63)).toInt64 = lN ((v + v / 256 + (v + v / 256) / 65536) / 4294967296) := wb_shr (k := 32) (by omega) (by decide)
    rw [s32, lN_add, lN_i, pk_and _ 7 (by decide)]
    have tn : ∀ z : Nat, (nI z).toBitVec.toNat = z % 4294967296 := fun z => BitVec.toNat_ofNat z 32
    rw [tn]
    refine congrArg nI ?_
    omega
  have hv : mapb (fun b => g3 (g2 (g1 b))) 8 n ≤ 578721382704613384 := by
    rw [vE]
    omega
  unfold f_210
  rw [e1, e2, e3]
  refine congrArg some ((key _ hv).trans (congrArg nI ?_))
  rw [vE, pE]
  exact sumb q0 q1 q2 q3 q4 q5 q6 q7
/-- one bit more -/
theorem pc_bit : ∀ (q k n : Nat), q < k → n.testBit q = false → pc k (n + 2 ^ q) = pc k n + 1
  | _, 0, _, h, _ => absurd h (Nat.not_lt_zero _)
  | 0, k + 1, n, _, hb => by
    have : n % 2 = 0 := by
      rw [Nat.testBit_zero] at hb
      have := of_decide_eq_false hb
      omega
    rw [pc, pc, Nat.pow_zero, show (n + 1) / 2 = n / 2 by omega]
    omega
  | q + 1, k + 1, n, h, hb => by
    rw [Nat.testBit_succ] at hb
    rw [pc, pc, Nat.pow_succ, show (n + 2 ^ q * 2) / 2 = n / 2 + 2 ^ q by omega, pc_bit q k (n / 2) (by omega) hb]
    omega
theorem or_bit {n q : Nat} (h : n.testBit q = false) : n ||| 2 ^ q = n + 2 ^ q := by
  have e : n = n % 2 ^ q + 2 ^ (q + 1) * (n / 2 ^ (q + 1)) := by
    have h1 := Nat.div_add_mod n (2 ^ (q + 1))
    have h2 : n % 2 ^ (q + 1) = n % 2 ^ q := by
      rw [Nat.testBit_eq_decide_div_mod_eq] at h
      have h3 : n / 2 ^ q % 2 = 0 := by
        have := of_decide_eq_false h
        omega
      rw [Nat.mod_pow_succ, h3, Nat.mul_zero, Nat.add_zero]
    omega
  apply Nat.eq_of_testBit_eq
  intro j
  have lt : n % 2 ^ q < 2 ^ q := Nat.mod_lt _ (Nat.two_pow_pos q)
  have e2 : n + 2 ^ q = 2 ^ (q + 1) * (n / 2 ^ (q + 1)) + (2 ^ q + n % 2 ^ q) := by omega
  have lt2 : 2 ^ q + n % 2 ^ q < 2 ^ (q + 1) := by
    rw [Nat.pow_succ]
    omega
  have lt3 : n % 2 ^ q < 2 ^ (q + 1) := by
    rw [Nat.pow_succ]
    omega
  have e3 : n = 2 ^ (q + 1) * (n / 2 ^ (q + 1)) + n % 2 ^ q := by omega
  rw [Nat.testBit_or, Nat.testBit_two_pow, e2, Nat.testBit_two_pow_mul_add _ lt2]
  have tn : n.testBit j = if j < q + 1 then (n % 2 ^ q).testBit j else (n / 2 ^ (q + 1)).testBit (j - (q + 1)) := by
    have := Nat.testBit_two_pow_mul_add (n / 2 ^ (q + 1)) lt3 j
    rw [← e3] at this
    exact this
  rw [tn]
  by_cases w : j < q + 1
  · rw [if_pos w, if_pos w]
    by_cases w2 : j = q
    · rw [w2, Nat.testBit_two_pow_add_eq, Nat.testBit_lt_two_pow lt]
      simp
    · rw [Nat.testBit_two_pow_add_gt (by omega)]
      simp [show ¬ q = j by omega]
  · rw [if_neg w, if_neg w]
    simp [show ¬ q = j by omega]
theorem bit_or {n q j : Nat} : (n ||| 2 ^ q).testBit j = (n.testBit j || decide (q = j)) := by
  rw [Nat.testBit_or, Nat.testBit_two_pow]
theorem pc_zero : ∀ k, pc k 0 = 0
  | 0 => rfl
  | k + 1 => by rw [pc, pc_zero k]
theorem pc_or {n q : Nat} (hq : q < 64) (h : n.testBit q = false) : pc 64 (n ||| 2 ^ q) = pc 64 n + 1 := by
  rw [or_bit h, pc_bit q 64 n hq h]
/-- a bit set in a long -/
theorem shl1 {q : Nat} (hq : q < 64) : (1 : Int64) <<< ((nI q).toInt64 &&& 63) = lN (2 ^ q) := by
  have := wb_shl 1 hq
  rw [Nat.one_mul] at this
  exact this
theorem orL {n q : Nat} (hn : n < 2 ^ 60) (hq : q < 60) : lN n ||| ((1 : Int64) <<< ((nI q).toInt64 &&& 63)) = lN (n ||| 2 ^ q) ∧ (n ||| 2 ^ q) < 2 ^ 60 := by
  have h2 : 2 ^ q < 2 ^ 60 := Nat.pow_lt_pow_right (by decide) hq
  rw [shl1 (by omega), wb_or (by omega) (by omega)]
  exact ⟨rfl, Nat.or_lt_two_pow hn h2⟩
