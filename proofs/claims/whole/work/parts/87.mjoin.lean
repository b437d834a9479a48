/-! the model's joining: flush and push -/
section MJ
variable {b0 : Nat} {P : List Int32} {Ws : List Nat} {cmp : Nat → Nat} {I : Nat → Nat → Int32}
theorem mflush {p q : Nat} (h : PMd b0 P Ws cmp I) (hw : wf Ws) (hd : dpt Ws ≤ 5) (hq7 : q < 8) (hpq : ∀ k, k < 17 → 7 ≤ k → k ≠ 16 → (prk k < q ↔ prk k < p)) (hp1 : 1 ≤ p) (hb : b0 + (encL P).length + Ws.length ≤ 1300) : ∃ I', f_152 (nI q) I = some I' ∧ PMd b0 (P ++ (fls p Ws).1.map cc) (fls p Ws).2 cmp I' ∧ Um (b0 + (encL P).length) I I' := by
  obtain ⟨h1, h2, h3, h4⟩ := h
  obtain ⟨l1, l2⟩ := hw.len
  have t := hw.top.1
  obtain ⟨I1, a1, a2, a3⟩ := f152_s (b0 := b0) hq7 hpq hp1 Ws FU P I hw.vld (FU_big (by omega)) (by omega) hb h1
  obtain ⟨d1, _, _⟩ := fls_dpt hp1 Ws
  refine ⟨I1, a1, ⟨a2, ?_, fun d hd' => ?_, ?_⟩, a3⟩
  · rw [a3.2.1 31 (by decide) (by decide), d1]; exact h2
  · rw [d1] at hd'
    rw [a3.1 109 (by decide)]
    exact h3 d hd'
  · rw [a3.2.1 12 (by decide) (by decide)]; exact h4
theorem mpush {k : Nat} (h : PMd b0 P Ws cmp I) (hl : Ws.length < 650) (hk : k ≠ 16) : ∃ I', f_153 (nI (mkk k)) I = some I' ∧ PMd b0 P (k :: Ws) cmp I' ∧ Um (b0 + (encL P).length) I I' := by
  obtain ⟨h1, h2, h3, h4⟩ := h
  obtain ⟨I1, a1, a2, a3⟩ := f153_s (k := k) h1 hl
  have dk : dpt (k :: Ws) = dpt Ws := by rw [dpt, if_neg hk]; rfl
  refine ⟨I1, a1, ⟨a2, ?_, fun d hd' => ?_, ?_⟩, a3⟩
  · rw [a3.2.1 31 (by decide) (by decide), dk]; exact h2
  · rw [dk] at hd'
    rw [a3.1 109 (by decide)]
    exact h3 d hd'
  · rw [a3.2.1 12 (by decide) (by decide)]; exact h4
/-- flush, then push -/
theorem mjoin {k : Nat} (h : PMd b0 P Ws cmp I) (hw : wf Ws) (hd : dpt Ws ≤ 5) (h7 : 7 ≤ k) (h16 : k < 16) (hb : b0 + (encL P).length + Ws.length ≤ 1300) : ∃ I1 I2, f_152 (nI (prk k)) I = some I1 ∧ f_153 (nI (mkk k)) I1 = some I2 ∧ PMd b0 (P ++ (fls (prk k) Ws).1.map cc) (k :: (fls (prk k) Ws).2) cmp I2 ∧ (∀ x, x ≠ 29 → x ≠ 30 → I1 97 x = I 97 x) ∧ (∀ x, x ≠ 29 → x ≠ 30 → I2 97 x = I 97 x) ∧ Vm (b0 + (encL P).length) I I2 := by
  obtain ⟨_, c2, _, _, _, c6⟩ := ccs k (by omega) h7
  obtain ⟨_, p0⟩ := c6 (by omega)
  obtain ⟨I1, a1, a2, a3⟩ := mflush h hw hd (p := prk k) (q := prk k) (by omega) (fun _ _ _ _ => Iff.rfl) p0 hb
  obtain ⟨l1, l2⟩ := hw.len
  have t := hw.top.1
  have sl : (fls (prk k) Ws).2.length ≤ Ws.length := by
    have := congrArg List.length (fls_app (prk k) Ws)
    rw [List.length_append] at this
    omega
  obtain ⟨I2, b1, b2, b3⟩ := mpush (k := k) a2 (by omega) (by omega)
  exact ⟨I1, I2, a1, b1, b2, a3.2.1, fun x y z => by rw [b3.2.1 x y z, a3.2.1 x y z], (Um.v a3).trans (Um.v b3) (by rw [encL_app, List.length_append]; omega)⟩
/-- tested, or no more -/
theorem PMd.test {b : Nat} (h : PMd b0 P Ws cmp I) : PMd b0 P Ws (fun d => if d = dpt Ws then b else cmp d) (up I 109 (dpt Ws + 1) (nI b)) := by
  obtain ⟨⟨m1, m2, m3, m4⟩, h2, h3, h4⟩ := h
  refine ⟨⟨by rw [up_ne (by decide)]; exact m1, by rw [up_ne (by decide)]; exact m2, by rw [up_ne (by decide)]; exact m3, by rw [up_ne (by decide)]; exact m4⟩, by rw [up_ne (by decide)]; exact h2, fun d hd => ?_, by rw [up_ne (by decide)]; exact h4⟩
  dsimp only
  by_cases z : d = dpt Ws
  · rw [if_pos z, z, up_at]
  · rw [if_neg z, up_nk (by omega)]
    exact h3 d hd
end MJ
