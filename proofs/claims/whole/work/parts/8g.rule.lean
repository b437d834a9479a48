/-! a whole rule, both parsers -/
theorem MT.fr2 {s e kd v sg W : Nat} {I I' : Nat → Nat → Int32} {J : Nat → Nat → Int64} (h : MT s e kd v sg W I J) (u : ∀ x, 16 ≤ x → x ≤ 21 → I' 97 x = I 97 x) : MT s e kd v sg W I' J := by
  unfold MT at h ⊢
  rw [u 16 (by decide) (by decide), u 17 (by decide) (by decide), u 18 (by decide) (by decide), u 19 (by decide) (by decide), u 20 (by decide) (by decide), u 21 (by decide) (by decide)]
  exact h
section RU
variable {t : Nat → Nat} {E a0 b0 D s e kd v sg W : Nat} {I K : Nat → Nat → Int32} {J : Nat → Nat → Int64}
theorem rule_s (hD : D < 8) (hTC : TC t E I) (hWZ : WZ I) (hWC : WC I) (hCT : CT s e kd v sg I) (h7 : I 67 7 = nI a0) (hTM : TM t E K) (hMT : MT s e kd v sg W K J) (h12 : K 97 12 = nI 0) (h29 : K 97 29 = nI b0) (hTok : Tok E s e kd v sg W) (ha : a0 ≤ s) (hb : b0 ≤ 2 * s) : Res E a0 b0 D s I K J (f_25 (nI D) I W) (f_159 K J) := by
  have hE := hTC.1
  have big : 1000 < FU := FU_big (by decide)
  have u1 : Ur a0 I (up (up (up I 67 8 (nI 0)) 67 9 (nI 0)) 67 13 (nI 0)) := (((Ur.refl _ _).up (Or.inl rfl)).up (Or.inl rfl)).up (Or.inl rfl)
  generalize hI3 : up (up (up I 67 8 (nI 0)) 67 9 (nI 0)) 67 13 (nI 0) = I3 at u1
  have p7 : I3 67 7 = nI a0 := by rw [← hI3, up_nk (by decide), up_nk (by decide), up_nk (by decide)]; exact h7
  have p8 : I3 67 8 = nI 0 := by rw [← hI3, up_nk (by decide), up_nk (by decide), up_at]
  have p9 : I3 67 9 = nI 0 := by rw [← hI3, up_nk (by decide), up_at]
  have p13 : I3 67 13 = nI 0 := by rw [← hI3, up_at]
  have u2 : Ur a0 I3 (up (up (up (up I3 71 0 (nI 0)) 67 12 (nI 1)) 67 11 (nI 1)) 67 10 (nI 0)) := ((((Ur.refl _ _).up (Or.inr rfl)).up (Or.inl rfl)).up (Or.inl rfl)).up (Or.inl rfl)
  generalize hI4 : up (up (up (up I3 71 0 (nI 0)) 67 12 (nI 1)) 67 11 (nI 1)) 67 10 (nI 0) = I4 at u2
  have eY : f_25 (nI D) I W = Yc D 0 FU I4 W := by
    have g41 : f_41 (0 : Int32) I3 = some (up I3 71 0 (nI 0)) := by
      rw [f_41, p9, if_neg (show ¬ nI 0 < 0 by decide), if_pos (show nI 0 < nI 7 by decide), if_pos ((inN (by decide)).mpr (by decide)), clN (by decide)]
      rfl
    have g26 : f_26 I3 = some I4 := by
      rw [f_26, g41, Option.bind_some, ← hI4]
      rfl
    have e1 : f_25 (nI D) I W = (f_26 I3).bind fun q4 => lb_25_1 (nI D) (0 : Int32) q4 W := by
      rw [← hI3]
      rfl
    rw [e1, g26, Option.bind_some]
    rfl
  have pc : PC a0 [] [] (fun _ => 0) 1 1 0 I4 := by
    refine ⟨⟨?_, fun i hi => absurd hi (Nat.not_lt_zero i), ?_, trivial⟩, ?_, fun d hd => ?_, ?_, ?_, fun _ => ⟨?_, ?_⟩⟩
    · rw [← hI4, up_nk (by decide), up_nk (by decide), up_nk (by decide), up_ne (by decide)]; exact p7
    · rw [← hI4, up_nk (by decide), up_nk (by decide), up_nk (by decide), up_ne (by decide)]; exact p8
    · rw [← hI4, up_nk (by decide), up_nk (by decide), up_nk (by decide), up_ne (by decide)]; exact p9
    · obtain rfl : d = 0 := Nat.le_zero.mp hd
      rw [← hI4, up_ne (by decide), up_ne (by decide), up_ne (by decide), up_at]
    · rw [← hI4, up_nk (by decide), up_nk (by decide), up_nk (by decide), up_ne (by decide)]; exact p13
    · rw [← hI4, up_nk (by decide), up_nk (by decide), up_at]
    · rw [← hI4, up_nk (by decide), up_at]
    · rw [← hI4, up_at]
  have k1 : Kc a0 I I4 := (u1.k (Nat.le_refl _)).trans (u2.k (Nat.le_refl _)) (Nat.le_refl _)
  have v1 : Uk 97 [30, 31] K (up (up (up K 97 30 (nI 0)) 97 31 (nI 0)) 97 31 (nI 1)) := (((Uk.refl _ _ _).up (by decide)).up (by decide)).up (by decide)
  generalize hK3 : up (up (up K 97 30 (nI 0)) 97 31 (nI 0)) 97 31 (nI 1) = K3 at v1
  have q30 : K3 97 30 = nI 0 := by rw [← hK3, up_nk (by decide), up_nk (by decide), up_at]
  have q31 : K3 97 31 = nI 1 := by rw [← hK3, up_at]
  have vm : Vm b0 K (up K3 109 1 (nI 0)) := by
    have v0 := v1.v (y := b0) (by decide)
    exact ⟨v0.1.up (by decide), fun k hk => by rw [up_ne (by decide)]; exact v0.2.1 k hk, fun x hx => by rw [up_ne (by decide)]; exact v0.2.2.1 x hx, v0.2.2.2.trans (Nf.of (by rw [up_ne (by decide)]) (by rw [up_ne (by decide)]))⟩
  have pm : PMd b0 [] [] (fun _ => 0) (up K3 109 1 (nI 0)) := by
    refine ⟨⟨?_, fun i hi => absurd hi (Nat.not_lt_zero i), ?_, trivial⟩, ?_, fun d hd => ?_, ?_⟩
    · rw [up_ne (by decide), v1.2 29 (by decide)]; exact h29
    · rw [up_ne (by decide)]; exact q30
    · rw [up_ne (by decide)]; exact q31
    · obtain rfl : d = 0 := Nat.le_zero.mp hd
      rw [up_at]
    · rw [up_ne (by decide), v1.2 12 (by decide)]; exact h12
  have mt : MT s e kd v sg W (up K3 109 1 (nI 0)) J := hMT.fr2 (fun x h1 h2 => by
    rw [up_ne (by decide), v1.2 x (by simp; omega)])
  obtain ⟨m2, h2, e2⟩ := f156_d (b := 1) (J := J) pm.2.2.2
  have eX : f_159 K J = Xd FU m2 FU 1 0 (up K3 109 1 (nI 0)) J := by
    have g155 : f_155 (up (up K 97 30 (nI 0)) 97 31 (nI 0)) = some (up K3 109 1 (nI 0)) := by
      have e31 : (up (up K 97 30 (nI 0)) 97 31 (nI 0)) 97 31 = nI 0 := up_at
      have one : nI 0 + (1 : Int32) = nI 1 := rfl
      rw [f_155, e31, if_pos (show nI 0 < (6 : Int32) by decide), one]
      dsimp only
      rw [hK3, q31, if_pos ((inN (by decide)).mpr (by decide)), clN (by decide)]
      rfl
    have e1 : f_159 K J = (f_145 K).bind fun q1 => (if q1 = 0 then (some (K, J)) else ((f_155 (up (up K 97 30 (nI 0)) 97 31 (nI 0))).bind fun q4 => ((f_156 (nI 1) q4 J).bind fun q5 => Xo FU q5.1 q5.2))) := rfl
    rw [e1, f145_y h12, Option.bind_some, if_neg (show ¬ nI 1 = 0 by decide), g155, Option.bind_some, e2]
  have st : Both t E a0 b0 [] [] (fun _ => 0) 1 1 0 s e kd v sg W I4 (up K3 109 1 (nI 0)) J := by
    refine ⟨hTC.k k1, hWZ.k k1, hWC.k k1, ?_, pc, hTM.v vm, mt, pm, hTok, trivial, Nat.zero_le _, fun d _ => (show (0 : Nat) < 2 by decide), ha, hb, fun v => ⟨[], rfl, rfl⟩, fun _ => ⟨by decide, by decide, fun _ => ⟨Nat.zero_le _, Nat.zero_le _⟩⟩⟩
    unfold CT
    rw [u2.1 60 (by decide), u1.1 60 (by decide)]
    exact hCT
  have t1 := hTok.1
  have t2 := hTok.2.1
  have fin := (both_s (t := t) (E := E) (a0 := a0) (b0 := b0) hD 501 (Nat.le_refl _) [] [] (fun _ => 0) 1 1 0 s e kd v sg W I4 _ J 0 FU FU m2 FU st (by omega) (Nat.zero_le _) (by omega) (by omega) (by omega) (by omega)).1 rfl
  rw [eY, eX]
  exact fin.step (Nat.le_refl _) k1 (Nat.le_refl _) vm (Nat.le_refl _) (UJ.refl _)
end RU
