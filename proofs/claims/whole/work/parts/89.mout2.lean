/-! the model's way out of a rule with a fault -/
section MZ
variable {Ws : List Nat} {n r : Nat} {I : Nat → Nat → Int32} {J : Nat → Nat → Int64}
theorem m159_24 (hv : vld Ws) (hl : Ws.length ≤ 650) (hn : n + Ws.length < 1300) (h29 : I 97 29 = nI n) (h30 : I 97 30 = nI Ws.length) (hs : StkF (fun k => nI (mkk k)) (I 108) Ws) : ∃ I', lb_159_24 I J = some (I', J) ∧ Um n I I' := by
  obtain ⟨I1, n1, a1, a2, a3, a5, a4⟩ := f152_w (q := 0) (by decide) Ws FU n I hv (FU_big (by omega)) hl (by omega) h29 h30 hs
  obtain ⟨I2, b1, b2, b3, b4, b5, b6⟩ := f149_s (n := 0) (I := I1) (0 : Int32) (L := []) (b0 := n1) a2 (fun i hi => absurd hi (Nat.not_lt_zero i)) (show n1 + 0 < 1300 by omega)
  refine ⟨I2, ?_, a4.1.trans (b4.mono (by decide)), fun k h1 h2 => by rw [b5 k h1, a4.2.1 k h1 h2], fun x hx => ?_⟩
  · rw [lb_159_24, show f_152 (0 : Int32) I = some I1 from a1, Option.bind_some, b1, Option.bind_some]
  · rw [b6 x (show x < n1 + 0 by omega), a4.2.2 x hx]
theorem m159_23 (h12 : I 97 12 = nI r) (h0 : 0 < r) (hr : r < 10) (hv : vld Ws) (hl : Ws.length ≤ 650) (hn : n + Ws.length < 1300) (h29 : I 97 29 = nI n) (h30 : I 97 30 = nI Ws.length) (hs : StkF (fun k => nI (mkk k)) (I 108) Ws) : ∃ I', lb_159_23 I J = some (I', J) ∧ Um n I I' := by
  obtain ⟨I', a1, a2⟩ := m159_24 (J := J) hv hl hn h29 h30 hs
  refine ⟨I', ?_, a2⟩
  rw [lb_159_23, f145_n h12 h0 hr, Option.bind_some, if_pos (show nI 0 = 0 from rfl)]
  exact a1
end MZ
