/-! the model's way out: a flush of which only the length counts -/
section MX
theorem f152_w {q : Nat} (hq7 : q < 8) : ∀ (Ws : List Nat) (m n : Nat) (I : Nat → Nat → Int32), vld Ws → Ws.length < m → Ws.length ≤ 650 → n + Ws.length ≤ 1300 → I 97 29 = nI n → I 97 30 = nI Ws.length → StkF (fun k => nI (mkk k)) (I 108) Ws → ∃ I' n', fx (fun _ _ => none) bd_152_0 m (nI q) I = some I' ∧ I' 97 29 = nI n' ∧ n' ≤ n + Ws.length ∧ n ≤ n' ∧ Um n I I'
  | [], m, n, I, _, hm, _, _, h29, h30, _ => by
    cases m with
    | zero => exact absurd hm (Nat.not_lt_zero _)
    | succ m =>
      refine ⟨I, n, ?_, h29, Nat.le_add_right _ _, Nat.le_refl n, Um.refl _ _⟩
      rw [fx_s, bd_152_0, h30, if_neg (show ¬ 0 < nI ([] : List Nat).length by decide)]
      rfl
  | k :: Ws, m, n, I, hv, hm, hl, hb, h29, h3, h4 => by
    cases m with
    | zero => exact absurd hm (Nat.not_lt_zero _)
    | succ m =>
      rw [List.length_cons] at hm hl hb h3
      obtain ⟨k7, k17⟩ := hv.head
      obtain ⟨_, g2, g3, g4, g5, g6⟩ := ccs k k17 k7
      have sub : nI (Ws.length + 1) - (1 : Int32) = nI Ws.length := subN (a := Ws.length + 1) (b := 1) (by omega)
      have at0 : I 108 Ws.length = nI (mkk k) := h4.1
      have pos : (0 : Int32) < nI (Ws.length + 1) := (ltN (a := 0) (by decide) (by omega)).mpr (by omega)
      have inW : ex_in (nI Ws.length) 650 := (inN (by omega)).mpr (by omega)
      have cl : (nI Ws.length).toNatClampNeg = Ws.length := clN (by omega)
      have at1 : I 108 (nI Ws.length).toNatClampNeg = nI (mkk k) := by rw [cl]; exact at0
      by_cases q16 : k = 16
      · refine ⟨I, n, ?_, h29, Nat.le_add_right _ _, Nat.le_refl n, Um.refl _ _⟩
        rw [fx_s, bd_152_0, h3, if_pos pos, sub, if_pos inW, at1, g5, Option.bind_some, if_pos q16, if_neg (show ¬ nI 1 = 0 by decide)]
        rfl
      · obtain ⟨g7, g8⟩ := g6 q16
        by_cases y : prk k < q
        · refine ⟨I, n, ?_, h29, Nat.le_add_right _ _, Nat.le_refl n, Um.refl _ _⟩
          rw [fx_s, bd_152_0, h3, if_pos pos, sub, if_pos inW, at1, g5, Option.bind_some, if_neg q16, if_pos (show nI 0 = 0 from rfl), if_pos inW, g7, Option.bind_some, if_pos ((ltN (by omega) (by omega)).mpr y)]
          rfl
        · obtain ⟨I1, b1, b2, b3, b4, b5, b6⟩ := f149_s (n := 0) (I := up I 97 30 (nI Ws.length)) (nI (mkk k)) (L := []) (b0 := n) (by rw [up_nk (by decide)]; exact h29) (fun i hi => absurd hi (Nat.not_lt_zero i)) (show n + 0 < 1300 by omega)
          obtain ⟨I2, n', d1, d2, d3, d5, d4⟩ := f152_w hq7 Ws m (n + 1) I1 hv.tail (by omega) (by omega) (by omega) b2 (by rw [b5 30 (by decide), up_at]) (by rw [b4 108 (by decide), up_ne (by decide)]; exact h4.2)
          refine ⟨I2, n', ?_, d2, by rw [List.length_cons]; omega, by omega, ?_⟩
          · have at2 : (up I 97 30 (nI Ws.length)) 108 ((up I 97 30 (nI Ws.length)) 97 30).toNatClampNeg = nI (mkk k) := by
              rw [up_at, cl, up_ne (by decide)]
              exact at0
            have in2 : ex_in ((up I 97 30 (nI Ws.length)) 97 30) 650 := by rw [up_at]; exact inW
            rw [fx_s, bd_152_0, h3, if_pos pos, sub, if_pos inW, at1, g5, Option.bind_some, if_neg q16, if_pos (show nI 0 = 0 from rfl), if_pos inW, g7, Option.bind_some, if_neg (fun z => y ((ltN (by omega) (by omega)).mp z))]
            dsimp only
            rw [if_pos in2, at2, b1, Option.bind_some]
            exact d1
          · have u1 : Um n I I1 := ⟨((Fr.refl _ _).up (by decide)).trans (b4.mono (by decide)), fun x h29 h30 => by rw [b5 x h29, up_nk h30], fun x hx => by rw [b6 x hx, up_ne (by decide)]⟩
            exact u1.trans d4 (by omega)
end MX
