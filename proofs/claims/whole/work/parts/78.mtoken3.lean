/-! the model's token and its word -/
abbrev ksg (c : Nat) : Prop := c = 59 ∨ c = 40 ∨ c = 41 ∨ c = 43 ∨ c = 45 ∨ c = 42 ∨ c = 47 ∨ c = 60 ∨ c = 61
def MT (s e kd v sg W : Nat) (I : Nat → Nat → Int32) (J : Nat → Nat → Int64) : Prop := I 97 16 = nI e ∧ I 97 18 = nI s ∧ I 97 17 = nI (if kd = 3 ∧ ¬ ksg sg then 4 else kd) ∧ I 97 19 = nI (e - s) ∧ I 97 20 = nI v ∧ (kd = 3 → I 97 21 = nI sg) ∧ (kd = 1 → e - s ≤ 500 ∧ ∃ P, P < 33554432 ∧ J 97 22 = lN P ∧ (e - s ≤ 5 → mfd P 16 0 = mw W) ∧ (5 < e - s → W = 17)) ∧ (kd ≠ 1 → W = 17) ∧ kd ≤ 3
section MK
variable {t : Nat → Nat} {E : Nat} {I : Nat → Nat → Int32} {J : Nat → Nat → Int64}
theorem f143_s {s e kd v sg W : Nat} (h : MT s e kd v sg W I J) : f_143 I J = some (mw W) := by
  obtain ⟨_, _, h17, h19, _, _, h1, h2, h3⟩ := h
  have m17 : mw 17 = -1 := rfl
  by_cases q : kd = 1
  · subst q
    rw [if_neg (fun z => by have := z.1; omega)] at h17
    obtain ⟨l, P, p1, p2, p3, p4⟩ := h1 rfl
    rw [f_143, h17, if_pos (show nI 1 = (1 : Int32) from rfl), h19]
    by_cases q5 : 5 < e - s
    · rw [if_pos (show (5 : Int32) < nI (e - s) from (ltN (a := 5) (by decide) (by omega)).mpr q5), p4 q5, m17]
      rfl
    · rw [if_neg (show ¬ (5 : Int32) < nI (e - s) from fun z => q5 ((ltN (a := 5) (by decide) (by omega)).mp z)), ← p3 (by omega)]
      exact f143_3 (by omega) p2 16 0 FU (by omega) (FU_big (by omega))
  · have n1 : ¬ nI (if kd = 3 ∧ ¬ ksg sg then 4 else kd) = (1 : Int32) := fun z => by
      have z' : nI (if kd = 3 ∧ ¬ ksg sg then 4 else kd) = nI 1 := z
      split at z'
      · exact absurd z' (by decide)
      · exact q ((eqN (by omega) (by decide)).mp z')
    rw [f_143, h17, if_neg n1, h2 q, m17]
    rfl
theorem f140_s {i s e kd v sg W : Nat} (h : TM t E I) (h16 : I 97 16 = nI i) (hi : i ≤ E) (k : Tk t E i s e kd v sg W) : ∃ I' J', f_140 I J = some (I', J') ∧ MT s e kd v sg W I' J' ∧ Uk 97 [16, 17, 18, 19, 20, 21] I I' ∧ UJ J J' := by
  have hE := h.1
  obtain ⟨hs, k⟩ := k
  obtain ⟨I1, a1, a2, a3⟩ := m140_0 (t := t) (E := E) J (E - i) i FU I (by omega) (FU_big (by omega)) h h16
  obtain ⟨s1, s2⟩ := skp_le (p := isWs) (t := t) (E - i) i
  rw [← hs] at a2 s1 s2
  have e0 : f_140 I J = lb_140_2 I1 J := a1
  have u0 : Uk 97 [16, 17, 18, 19, 20, 21] I (up (up I1 97 18 (nI s)) 97 20 (nI 0)) := ((a3.mono (by decide)).up (by decide)).up (by decide)
  generalize hI3 : up (up I1 97 18 (nI s)) 97 20 (nI 0) = I3 at u0
  have h3' := h.u u0 (by decide)
  have p16 : I3 97 16 = nI s := by rw [← hI3, up_nk (by decide), up_nk (by decide)]; exact a2
  have p18 : I3 97 18 = nI s := by rw [← hI3, up_nk (by decide), up_at]
  have p20 : I3 97 20 = nI 0 := by rw [← hI3, up_at]
  have e1 : lb_140_2 I1 J = (f_137 (I3 97 16) I3).bind fun q4 => (if ((up I3 97 21 q4) 97 16) < ((up I3 97 21 q4) 97 15) then ((f_138 q4 ).bind fun q6 => (if q6 = 0 then ((f_139 q4 ).bind fun q7 => (if q7 = 0 then (let I8 := up (up I3 97 21 q4) 97 16 (((up I3 97 21 q4) 97 16) + (1 : Int32))
  (if q4 = (59 : Int32) then (lb_140_12   I8 (up J 97 22 (0 : Int64))) else (if q4 = (40 : Int32) then (lb_140_12   I8 (up J 97 22 (0 : Int64))) else (if q4 = (41 : Int32) then (lb_140_12   I8 (up J 97 22 (0 : Int64))) else (if q4 = (43 : Int32) then (lb_140_12   I8 (up J 97 22 (0 : Int64))) else (if q4 = (45 : Int32) then (lb_140_12   I8 (up J 97 22 (0 : Int64))) else (if q4 = (42 : Int32) then (lb_140_12   I8 (up J 97 22 (0 : Int64))) else (if q4 = (47 : Int32) then (lb_140_12   I8 (up J 97 22 (0 : Int64))) else (if q4 = (60 : Int32) then (lb_140_12   I8 (up J 97 22 (0 : Int64))) else (if q4 = (61 : Int32) then (lb_140_12   I8 (up J 97 22 (0 : Int64))) else (lb_140_14  (4 : Int32) I8 (up J 97 22 (0 : Int64))))))))))))) else (lb_140_8   (up I3 97 21 q4) (up J 97 22 (0 : Int64))))) else (lb_140_4   (up I3 97 21 q4) (up J 97 22 (0 : Int64))))) else (lb_140_15   (up (up I3 97 21 q4) 97 17 (0 : Int32)) (up J 97 22 (0 : Int64)))) := by
    rw [← hI3, ← a2]
    rfl
  have j22 : (up J 97 22 (0 : Int64)) 97 22 = lN 0 := up_at
  have uj : UJ J (up J 97 22 (0 : Int64)) := (UJ.refl J).up
  rw [e0, e1, p16]
  by_cases q : s < E
  · have tl := (h3'.2.2 s q).1
    have u1 : Uk 97 [16, 17, 18, 19, 20, 21] I3 (up I3 97 21 (nI (t s))) := (Uk.refl _ _ _).up (by decide)
    have h4' := h3'.u u1 (by decide)
    have r16 : (up I3 97 21 (nI (t s))) 97 16 = nI s := by rw [up_nk (by decide)]; exact p16
    have r18 : (up I3 97 21 (nI (t s))) 97 18 = nI s := by rw [up_nk (by decide)]; exact p18
    have r20 : (up I3 97 21 (nI (t s))) 97 20 = nI 0 := by rw [up_nk (by decide)]; exact p20
    rw [h3'.at q, Option.bind_some, r16, h4'.2.1, if_pos ((ltN (by omega) (by omega)).mpr q), f138_s tl, Option.bind_some, b01]
    by_cases q1 : isLe (t s)
    · rw [if_pos q1]
      obtain ⟨rfl, _, _, he, rfl, rfl, hW⟩ : kd = 1 ∧ s < E ∧ isLe (t s) ∧ e = skp isLe t (E - s) s ∧ v = 0 ∧ sg = 0 ∧ WR t s (e - s) W := by
        rcases k with k | k | k | k
        · omega
        · exact k
        · obtain ⟨_, _, k3, _⟩ := k
          exact absurd q1.1 (by have := k3.2; omega)
        · exact absurd q1 k.2.2.1
      obtain ⟨I4, J4, b1, b2, b3, b4, b5, b6, b7, b8⟩ := m140_4 (t := t) (E := E) (s := s) (E - s) s FU (up I3 97 21 (nI (t s))) (up J 97 22 (0 : Int64)) (by omega) (FU_big (by omega)) (Nat.le_refl s) (fun x h1 h2 => by omega) h4' r16 r18 (by rw [Nat.sub_self]; exact j22)
      have sl := skp_le (p := isLe) (t := t) (E - s) s
      have sa := skp_all (p := isLe) (t := t) (E - s) s
      have ls : s < skp isLe t (E - s) s := by
        obtain ⟨d, hd⟩ : ∃ d, E - s = d + 1 := ⟨E - s - 1, by omega⟩
        rw [hd, skp, if_pos q1]
        have := (skp_le (p := isLe) (t := t) d (s + 1)).1
        omega
      rw [← he] at b2 b5 b6 sl sa ls
      have pl := pkl_lt (t := t) (s := s) (min 5 (e - s)) (fun x hx => sa (s + x) (by omega) (by omega))
      have p5 : 32 ^ (min 5 (e - s)) ≤ 32 ^ 5 := Nat.pow_le_pow_right (by decide) (by omega)
      refine ⟨I4, J4, b1, ⟨b2, b3, ?_, b5, ?_, fun z => absurd z (by decide), fun _ => ⟨by omega, pkl t s (min 5 (e - s)), by omega, b6, fun z => ?_, fun z => ?_⟩, fun z => absurd rfl z, by decide⟩, u0.trans (u1.trans (b7.mono (by decide))), uj.trans b8⟩
      · rw [b4, if_neg (fun z => absurd z.1 (by decide))]
      · rw [b7.2 20 (by decide)]; exact r20
      · rw [Nat.min_eq_right z]
        exact word_both z (by omega) (fun x hx => sa (s + x) (by omega) (by omega)) hW
      · rcases hW with hW | ⟨w, hw, _, hW⟩
        · exact hW.1
        · have := (wtx_bl w hw).2
          have := hW.1
          omega
    · rw [if_neg q1, f139_s tl, Option.bind_some, b01]
      by_cases q2 : isDi (t s)
      · rw [if_pos q2]
        obtain ⟨rfl, _, _, he, hv, rfl, hW⟩ : kd = 2 ∧ s < E ∧ isDi (t s) ∧ e = skp isDi t (E - s) s ∧ v = dvl t s (min 4 (e - s)) ∧ sg = 0 ∧ W = 17 := by
          rcases k with k | k | k | k
          · omega
          · exact absurd k.2.2.1 q1
          · exact k
          · exact absurd q2 k.2.2.2.1
        obtain ⟨I4, b1, b2, b3, b4, b5, b6, b7⟩ := m140_8 (t := t) (E := E) (s := s) (up J 97 22 (0 : Int64)) (E - s) s FU (up I3 97 21 (nI (t s))) (by omega) (FU_big (by omega)) (Nat.le_refl s) (fun x h1 h2 => by omega) h4' r16 r18 (by rw [Nat.sub_self]; exact r20)
        rw [← he] at b2 b5 b6
        rw [← hv] at b6
        refine ⟨I4, up J 97 22 (0 : Int64), b1, ⟨b2, b3, ?_, b5, b6, fun z => absurd z (by decide), fun z => absurd z (by decide), fun _ => hW, by decide⟩, u0.trans (u1.trans (b7.mono (by decide))), uj⟩
        rw [b4, if_neg (fun z => absurd z.1 (by decide))]
      · rw [if_neg q2]
        obtain ⟨rfl, _, _, _, he, hv, hg, hW⟩ : kd = 3 ∧ s < E ∧ ¬ isLe (t s) ∧ ¬ isDi (t s) ∧ e = s + 1 ∧ v = 0 ∧ sg = t s ∧ W = 17 := by
          rcases k with k | k | k | k
          · omega
          · exact absurd k.2.2.1 q1
          · exact absurd k.2.2.1 q2
          · exact k
        subst he hv hg hW
        have one : nI s + (1 : Int32) = nI (s + 1) := addN s 1
        rw [one]
        have u2 : Uk 97 [16, 17, 18, 19, 20, 21] I3 (up (up I3 97 21 (nI (t s))) 97 16 (nI (s + 1))) := u1.up (by decide)
        have fin : ∀ kk : Nat, ∃ I', lb_140_14 (nI kk) (up (up I3 97 21 (nI (t s))) 97 16 (nI (s + 1))) (up J 97 22 (0 : Int64)) = some (I', up J 97 22 (0 : Int64)) ∧ I' 97 16 = nI (s + 1) ∧ I' 97 18 = nI s ∧ I' 97 17 = nI kk ∧ I' 97 19 = nI (s + 1 - s) ∧ I' 97 20 = nI 0 ∧ I' 97 21 = nI (t s) ∧ Uk 97 [16, 17, 18, 19, 20, 21] I3 I' := by
          intro kk
          obtain ⟨I', c1, c2, c3, c4, c5, c6⟩ := l15 (I := up (up (up I3 97 21 (nI (t s))) 97 16 (nI (s + 1))) 97 17 (nI kk)) (J := up J 97 22 (0 : Int64)) (s := s) (e := s + 1) (k := kk) (by omega) (by rw [up_nk (by decide), up_at]) (by rw [up_nk (by decide), up_nk (by decide)]; exact r18) up_at
          refine ⟨I', c1, c3, c4, c5, c2, ?_, ?_, u2.trans (((Uk.refl _ _ _).up (by decide)).trans (c6.mono (by decide)))⟩
          · rw [c6.2 20 (by decide), up_nk (by decide), up_nk (by decide)]; exact r20
          · rw [c6.2 21 (by decide), up_nk (by decide), up_nk (by decide), up_at]
        have cs : ∀ x : Nat, x < 256 → (nI (t s) = nI x) = (t s = x) := fun x hx => propext (eqN (by omega) (by omega))
        have c59 : (nI (t s) = (59 : Int32)) = (t s = 59) := cs 59 (by decide)
        have c40 : (nI (t s) = (40 : Int32)) = (t s = 40) := cs 40 (by decide)
        have c41 : (nI (t s) = (41 : Int32)) = (t s = 41) := cs 41 (by decide)
        have c43 : (nI (t s) = (43 : Int32)) = (t s = 43) := cs 43 (by decide)
        have c45 : (nI (t s) = (45 : Int32)) = (t s = 45) := cs 45 (by decide)
        have c42 : (nI (t s) = (42 : Int32)) = (t s = 42) := cs 42 (by decide)
        have c47 : (nI (t s) = (47 : Int32)) = (t s = 47) := cs 47 (by decide)
        have c60 : (nI (t s) = (60 : Int32)) = (t s = 60) := cs 60 (by decide)
        have c61 : (nI (t s) = (61 : Int32)) = (t s = 61) := cs 61 (by decide)
        simp only [c59, c40, c41, c43, c45, c42, c47, c60, c61]
        have l12 : ∀ I J, lb_140_12 I J = lb_140_14 (nI 3) I J := fun _ _ => rfl
        simp only [l12]
        by_cases z : ksg (t s)
        · obtain ⟨I', d1, d2, d3, d4, d5, d6, d7, d8⟩ := fin 3
          refine ⟨I', up J 97 22 (0 : Int64), ?_, ⟨d2, d3, ?_, d5, d6, fun _ => d7, fun y => absurd y (by decide), fun _ => rfl, by decide⟩, u0.trans d8, uj⟩
          · rw [d1]
            repeat' split
            all_goals first | rfl | skip
            all_goals (exfalso; rcases z with z | z | z | z | z | z | z | z | z <;> contradiction)
          · rw [d4, if_neg (fun y => y.2 z)]
        · obtain ⟨I', d1, d2, d3, d4, d5, d6, d7, d8⟩ := fin 4
          refine ⟨I', up J 97 22 (0 : Int64), ?_, ⟨d2, d3, ?_, d5, d6, fun _ => d7, fun y => absurd y (by decide), fun _ => rfl, by decide⟩, u0.trans d8, uj⟩
          · rw [if_neg (fun y => z (by simp [ksg, y])), if_neg (fun y => z (by simp [ksg, y])), if_neg (fun y => z (by simp [ksg, y])), if_neg (fun y => z (by simp [ksg, y])), if_neg (fun y => z (by simp [ksg, y])), if_neg (fun y => z (by simp [ksg, y])), if_neg (fun y => z (by simp [ksg, y])), if_neg (fun y => z (by simp [ksg, y])), if_neg (fun y => z (by simp [ksg, y]))]
            exact d1
          · rw [d4, if_pos ⟨rfl, z⟩]
  · have sE : s = E := by omega
    obtain ⟨rfl, _, rfl, rfl, rfl, rfl⟩ : kd = 0 ∧ s = E ∧ e = s ∧ v = 0 ∧ sg = 0 ∧ W = 17 := by
      rcases k with k | k | k | k
      · exact k
      · exact absurd k.2.1 q
      · exact absurd k.2.1 q
      · exact absurd k.2.1 q
    have u1 : Uk 97 [16, 17, 18, 19, 20, 21] I3 (up (up I3 97 21 (nI 0)) 97 17 (nI 0)) := ((Uk.refl _ _ _).up (by decide)).up (by decide)
    have g : f_137 (nI e) I3 = some (nI 0) := by rw [sE]; exact h3'.en
    obtain ⟨I', c1, c2, c3, c4, c5, c6⟩ := l15 (I := up (up I3 97 21 (nI 0)) 97 17 (nI 0)) (J := up J 97 22 (0 : Int64)) (s := e) (e := e) (k := 0) (Nat.le_refl e) (by rw [up_nk (by decide), up_nk (by decide)]; exact p16) (by rw [up_nk (by decide), up_nk (by decide)]; exact p18) up_at
    refine ⟨I', up J 97 22 (0 : Int64), ?_, ⟨c3, c4, ?_, c2, ?_, fun z => absurd z (by decide), fun z => absurd z (by decide), fun _ => rfl, by decide⟩, u0.trans (u1.trans (c6.mono (by decide))), uj⟩
    · have r16 : (up I3 97 21 (nI 0)) 97 16 = nI e := by rw [up_nk (by decide)]; exact p16
      have r15 : (up I3 97 21 (nI 0)) 97 15 = nI E := by rw [up_nk (by decide)]; exact h3'.2.1
      rw [g, Option.bind_some, r16, r15, if_neg (fun y => q ((ltN (by omega) (by omega)).mp y))]
      exact c1
    · rw [c5, if_neg (fun z => absurd z.1 (by decide))]
    · rw [c6.2 20 (by decide), up_nk (by decide), up_nk (by decide)]; exact p20
end MK
