/-! The class's dealing: rests, heaps, tables, layings -/
theorem lt0_msb (x : Int32) : x < 0 ↔ x.toBitVec.msb = true := by
  rw [BitVec.msb_eq_toInt, decide_eq_true_iff, Int32.lt_iff_toInt_lt]
  exact Iff.rfl
theorem xor_neg (x : Int32) {H : Nat} (hH : H < 2147483648) : (x ^^^ nI H) < 0 ↔ x < 0 := by
  have h2 : ¬ nI H < 0 := negN hH
  rw [lt0_msb] at h2
  rw [lt0_msb, lt0_msb, Int32.toBitVec_xor, BitVec.msb_xor]
  cases h : (nI H).toBitVec.msb with
  | true => exact absurd h h2
  | false => rw [Bool.xor_false]
theorem rem_neg {x : Int32} {m H : Nat} (hm : x.toInt = -(m : Int)) (h0 : 0 < H) (hH : H < 2147483648) : (x - x / nI H * nI H).toInt = -((m % H : Nat) : Int) := by
  have hx1 := x.le_toInt
  have hx2 := x.toInt_lt
  have hy : (nI H).toInt = (H : Int) := nI_toInt (pw31 ▸ hH)
  have hdm := Nat.div_add_mod m H
  have hq : m / H ≤ m := Nat.div_le_self _ _
  have hp : m / H * H ≤ m := Nat.div_mul_le_self _ _
  have e3 : m % H = m - m / H * H := by
    rw [Nat.mul_comm] at hdm
    omega
  have d1 : (x / nI H).toInt = -((m / H : Nat) : Int) := by
    rw [Int32.toInt_div, hy, hm, Int.neg_tdiv, ← Int.ofNat_tdiv]
    generalize m / H = q at hq
    exact Int.bmod_eq_of_le (by omega) (by omega)
  have e : (-((m / H : Nat) : Int)) * (H : Int) = -((m / H * H : Nat) : Int) := by
    rw [Int.neg_mul, ← Int.natCast_mul]
  have d2 : (x / nI H * nI H).toInt = -((m / H * H : Nat) : Int) := by
    rw [Int32.toInt_mul, d1, hy, e]
    generalize m / H * H = q at hp
    exact Int.bmod_eq_of_le (by omega) (by omega)
  rw [Int32.toInt_sub, d2, hm, e3]
  generalize m / H * H = q at hp
  rw [Int.bmod_eq_of_le (by omega) (by omega)]
  omega
/-- the rest of any number, as both take it -/
theorem rem_both (x : Int32) {H : Nat} (h0 : 0 < H) (hH : H < 1073741824) : ∃ v, v < H ∧ f_125 x (nI H) = some (nI v) ∧ (if (x - x / nI H * nI H) < 0 then (x - x / nI H * nI H) + nI H else (x - x / nI H * nI H)) = nI v := by
  have hH' : H < 2147483648 := by omega
  have z0 : (0 : Int32) = nI 0 := rfl
  have p0 : (0 : Int32) < nI H := by rw [z0, ltN (by omega) hH']; exact h0
  have n0 : ¬ nI H = 0 := by rw [z0, eqN hH' (by omega)]; omega
  by_cases hx : x < 0
  · have hx2 := x.le_toInt
    rw [Int32.lt_iff_toInt_lt] at hx
    have hz : (0 : Int32).toInt = 0 := rfl
    obtain ⟨m, hm⟩ : ∃ m : Nat, x.toInt = -(m : Int) := ⟨(-x.toInt).toNat, by omega⟩
    have hr := rem_neg hm h0 hH'
    have hml := Nat.mod_lt m h0
    have hxn : (x ^^^ nI H) < 0 := (xor_neg x hH').mpr (Int32.lt_iff_toInt_lt.mpr hx)
    by_cases hz2 : m % H = 0
    · have r0 : (x - x / nI H * nI H) = 0 := Int32.toInt_inj.mp (by rw [hr, hz2]; rfl)
      refine ⟨0, h0, ?_, ?_⟩
      · unfold f_125
        rw [if_pos p0]
        unfold f_211
        rw [if_neg n0, if_pos hxn, if_pos r0, r0]
        rfl
      · rw [r0, if_neg (by decide)]
        rfl
    · have rn : (x - x / nI H * nI H) < 0 := by
        rw [Int32.lt_iff_toInt_lt, hr, hz]
        omega
      have r0 : ¬ (x - x / nI H * nI H) = 0 := by
        intro h
        rw [h] at rn
        exact absurd rn (by decide)
      have rs : (x - x / nI H * nI H) + nI H = nI (H - m % H) := Int32.toInt_inj.mp (by
        rw [Int32.toInt_add, hr, nI_toInt (pw31 ▸ hH'), nI_toInt (by omega), Int.bmod_eq_of_le (by omega) (by omega)]
        omega)
      refine ⟨H - m % H, by omega, ?_, ?_⟩
      · unfold f_125
        rw [if_pos p0]
        unfold f_211
        rw [if_neg n0, if_pos hxn, if_neg r0, rs]
        rfl
      · rw [if_pos rn, rs]
  · obtain ⟨a, ha, rfl⟩ := nI_of hx
    have ha' : a < 2147483648 := pw31 ▸ ha
    refine ⟨a % H, Nat.mod_lt _ h0, ?_, ?_⟩
    · unfold f_125
      rw [if_pos p0]
      unfold f_211
      rw [if_neg n0, if_neg (fun h => hx ((xor_neg _ hH').mp h)), remN ha' h0 hH']
      rfl
    · rw [remN ha' h0 hH', if_neg (show ¬ nI (a % H) < 0 from negN (by have := Nat.mod_lt a h0; omega))]
theorem f125N {a H : Nat} (ha : a < 2147483648) (h0 : 0 < H) (hH : H < 2147483648) : f_125 (nI a) (nI H) = some (nI (a % H)) := by
  have z0 : (0 : Int32) = nI 0 := rfl
  unfold f_125 f_211
  rw [if_pos (by rw [z0, ltN (by omega) hH]; exact h0), if_neg (by rw [z0, eqN hH (by omega)]; omega), if_neg (fun h => negN ha ((xor_neg _ hH).mp h)), remN ha h0 hH]
  rfl
theorem f126N {a H : Nat} (ha : a < 2147483648) (h0 : 0 < H) (hH : H < 2147483648) : f_126 (nI a) (nI H) = some (nI (a / H)) := by
  have z0 : (0 : Int32) = nI 0 := rfl
  unfold f_126
  rw [if_pos (by rw [z0, ltN (by omega) hH]; exact h0), if_neg (by rw [z0, eqN hH (by omega)]; omega), divN ha h0 hH]
  rfl
/-- cards and heaps as they may be -/
def CH (C H : Nat) : Prop := 2 ≤ H ∧ H ≤ 6 ∧ H ≤ C ∧ C ≤ 60
theorem f2_s {C H k p : Nat} {I : Nat → Nat → Int32} (hc : CH C H) (h4 : I 74 4 = nI C) (h5 : I 74 5 = nI H) (hk : k < 3) (hp' : p < C) : f_2 (nI k) (nI p) I = some (nI (hp C H k p)) := by
  obtain ⟨c1, c2, c3, c4⟩ := hc
  have hm : C % H * (C / H + 1) < 2147483648 := by
    have a1 : C % H ≤ 60 := Nat.le_trans (Nat.mod_le _ _) c4
    have a2 : C / H + 1 ≤ 61 := by have := Nat.div_le_self C H; omega
    exact Nat.lt_of_le_of_lt (Nat.mul_le_mul a1 a2) (by decide)
  have hz : 0 < C / H := Nat.div_pos c3 (by omega)
  have hz2 : C / H ≤ C := Nat.div_le_self _ _
  have hr := Nat.mod_lt p (show 0 < 2 * H by omega)
  unfold f_2 hp lb_2_3 lb_2_6
  simp (disch := omega) only [lits, h4, h5, eqN, ltN, mulN, f125N, f126N, Option.bind_some, addN, subN]
  split
  · rfl
  · split
    · split <;> rfl
    · split <;> rfl
