/-! the model's constructor, by wip/whole/ctor3.py -/
def S97 (nS : Nat) : List ex_Sh := (.inr (.int, nS) :: (pg_S ++ [])) ++ [.inl 9]
theorem l97 {nS : Nat} : (S97 nS).length = 98 := rfl
theorem g97 {nS : Nat} : (S97 nS)[97]? = some (.inl 9) := rfl
def moI (I : Nat → Nat → Int32) : Nat → Nat → Int32 := (nw (nw (nw (nw (nw (nw (nw (nw (nw (nw (nw (nw (nw (up (nw (nw (nw (nw (nw (nw (nw (nw (nw (nw (nw (nw (nw (nw (nw (nw (nw (up (nw (nw (nw (nw (nw (up (up I 97 1 (27)) 97 2 (3)) 98) 99) 100) 101) 102) 97 13 (-1)) 103) 104) 105) 106) 107) 108) 109) 110) 111) 112) 113) 114) 115) 116) 117) 118) 119) 97 48 (-1)) 120) 121) 122) 123) 124) 125) 126) 127) 128) 129) 130) 131) 132)
def moJ (J : Nat → Nat → Int64) : Nat → Nat → Int64 := (nw (nw (nw (nw (nw (nw (nw (nw (nw (nw (nw (nw (nw (nw (nw (nw (nw (nw (nw (nw (nw (nw (nw (nw (nw (nw (nw (nw (nw (nw (nw (nw (nw (nw (nw J 98) 99) 100) 101) 102) 103) 104) 105) 106) 107) 108) 109) 110) 111) 112) 113) 114) 115) 116) 117) 118) 119) 120) 121) 122) 123) 124) 125) 126) 127) 128) 129) 130) 131) 132)
def moR (R : Nat → Nat → Option Nat) : Nat → Nat → Option Nat := (up (up (up (up (up (up (up (up (up (up (up (up (up (up (up (up (up (up (up (up (up (up (up (up (up (up (up (up (up (up (up (up (up (up (up R 97 6 (some 98)) 97 7 (some 99)) 97 8 (some 100)) 97 9 (some 101)) 97 10 (some 102)) 97 14 (some 103)) 97 32 (some 104)) 97 33 (some 105)) 97 34 (some 106)) 97 35 (some 107)) 97 36 (some 108)) 97 37 (some 109)) 97 38 (some 110)) 97 39 (some 111)) 97 40 (some 112)) 97 41 (some 113)) 97 42 (some 114)) 97 43 (some 115)) 97 44 (some 116)) 97 45 (some 117)) 97 46 (some 118)) 97 47 (some 119)) 97 50 (some 120)) 97 51 (some 121)) 97 53 (some 122)) 97 54 (some 123)) 97 55 (some 124)) 97 56 (some 125)) 97 57 (some 126)) 97 58 (some 127)) 97 61 (some 128)) 97 62 (some 129)) 97 63 (some 130)) 97 64 (some 131)) 97 65 (some 132))
def moS (S : List ex_Sh) : List ex_Sh := (((((((((((((((((((((((((((((((((((S ++ [.inr (.int, 8)]) ++ [.inr (.int, 8)]) ++ [.inr (.int, 8)]) ++ [.inr (.int, 1300)]) ++ [.inr (.int, 500)]) ++ [.inr (.int, 2)]) ++ [.inr (.int, 8)]) ++ [.inr (.int, 8)]) ++ [.inr (.int, 8)]) ++ [.inr (.int, 1300)]) ++ [.inr (.int, 650)]) ++ [.inr (.boolean, 9)]) ++ [.inr (.int, 60)]) ++ [.inr (.int, 60)]) ++ [.inr (.int, 6)]) ++ [.inr (.int, 6)]) ++ [.inr (.int, 6)]) ++ [.inr (.int, 650)]) ++ [.inr (.int, 60)]) ++ [.inr (.int, 60)]) ++ [.inr (.int, 5)]) ++ [.inr (.int, 5)]) ++ [.inr (.int, 60)]) ++ [.inr (.int, 60)]) ++ [.inr (.int, 60)]) ++ [.inr (.int, 60)]) ++ [.inr (.int, 60)]) ++ [.inr (.int, 1200)]) ++ [.inr (.int, 1200)]) ++ [.inr (.int, 60)]) ++ [.inr (.int, 60)]) ++ [.inr (.int, 60)]) ++ [.inr (.int, 60)]) ++ [.inr (.int, 1200)]) ++ [.inr (.int, 1200)])
theorem moR_s {fm : Option Nat} : moR (nr (pg_R fm Nn 17) 97) = pg_R fm (pg_R2 Nn) 17 := by
  unfold moR
  funext a
  by_cases h97 : a = 97
  · subst h97
    funext k
    rcases k with _ | k
    · rfl
    rcases k with _ | k
    · rfl
    rcases k with _ | k
    · rfl
    rcases k with _ | k
    · rfl
    rcases k with _ | k
    · rfl
    rcases k with _ | k
    · rfl
    rcases k with _ | k
    · rfl
    rcases k with _ | k
    · rfl
    rcases k with _ | k
    · rfl
    rcases k with _ | k
    · rfl
    rcases k with _ | k
    · rfl
    rcases k with _ | k
    · rfl
    rcases k with _ | k
    · rfl
    rcases k with _ | k
    · rfl
    rcases k with _ | k
    · rfl
    rcases k with _ | k
    · rfl
    rcases k with _ | k
    · rfl
    rcases k with _ | k
    · rfl
    rcases k with _ | k
    · rfl
    rcases k with _ | k
    · rfl
    rcases k with _ | k
    · rfl
    rcases k with _ | k
    · rfl
    rcases k with _ | k
    · rfl
    rcases k with _ | k
    · rfl
    rcases k with _ | k
    · rfl
    rcases k with _ | k
    · rfl
    rcases k with _ | k
    · rfl
    rcases k with _ | k
    · rfl
    rcases k with _ | k
    · rfl
    rcases k with _ | k
    · rfl
    rcases k with _ | k
    · rfl
    rcases k with _ | k
    · rfl
    rcases k with _ | k
    · rfl
    rcases k with _ | k
    · rfl
    rcases k with _ | k
    · rfl
    rcases k with _ | k
    · rfl
    rcases k with _ | k
    · rfl
    rcases k with _ | k
    · rfl
    rcases k with _ | k
    · rfl
    rcases k with _ | k
    · rfl
    rcases k with _ | k
    · rfl
    rcases k with _ | k
    · rfl
    rcases k with _ | k
    · rfl
    rcases k with _ | k
    · rfl
    rcases k with _ | k
    · rfl
    rcases k with _ | k
    · rfl
    rcases k with _ | k
    · rfl
    rcases k with _ | k
    · rfl
    rcases k with _ | k
    · rfl
    rcases k with _ | k
    · rfl
    rcases k with _ | k
    · rfl
    rcases k with _ | k
    · rfl
    rcases k with _ | k
    · rfl
    rcases k with _ | k
    · rfl
    rcases k with _ | k
    · rfl
    rcases k with _ | k
    · rfl
    rcases k with _ | k
    · rfl
    rcases k with _ | k
    · rfl
    rcases k with _ | k
    · rfl
    rcases k with _ | k
    · rfl
    rcases k with _ | k
    · rfl
    rcases k with _ | k
    · rfl
    rcases k with _ | k
    · rfl
    rcases k with _ | k
    · rfl
    rcases k with _ | k
    · rfl
    rcases k with _ | k
    · rfl
    rfl
  simp only [up, nr, ex_set, if_neg h97]
  funext k
  unfold pg_R pg_R2
  simp only [if_neg h97]
theorem moS_d : pg_S2 = [.inl 9, .inr (.int, 8), .inr (.int, 8), .inr (.int, 8), .inr (.int, 1300), .inr (.int, 500), .inr (.int, 2), .inr (.int, 8), .inr (.int, 8), .inr (.int, 8), .inr (.int, 1300), .inr (.int, 650), .inr (.boolean, 9), .inr (.int, 60), .inr (.int, 60), .inr (.int, 6), .inr (.int, 6), .inr (.int, 6), .inr (.int, 650), .inr (.int, 60), .inr (.int, 60), .inr (.int, 5), .inr (.int, 5), .inr (.int, 60), .inr (.int, 60), .inr (.int, 60), .inr (.int, 60), .inr (.int, 60), .inr (.int, 1200), .inr (.int, 1200), .inr (.int, 60), .inr (.int, 60), .inr (.int, 60), .inr (.int, 60), .inr (.int, 1200), .inr (.int, 1200)] := rfl
theorem moS_s {nS : Nat} : moS (S97 nS) = .inr (.int, nS) :: (pg_S ++ (pg_S2 ++ [])) := by
  unfold moS S97
  simp only [List.append_assoc, List.cons_append, List.nil_append, List.append_nil]
  rw [← moS_d]
theorem moW {nS : Nat} {fm : Option Nat} {I : Nat → Nat → Int32} {J : Nat → Nat → Int64} : ((moS (S97 nS), 40 + 1 + 1 + 1 + 1 + 1 + 1 + 1 + 1 + 1 + 1 + 1 + 1 + 1 + 1 + 1 + 1 + 1 + 1 + 1 + 1 + 1 + 1 + 1 + 1 + 1 + 1 + 1 + 1 + 1 + 1 + 1 + 1 + 1 + 1 + 1, 3153 + 8 + 8 + 8 + 1300 + 500 + 2 + 8 + 8 + 8 + 1300 + 650 + 9 + 60 + 60 + 6 + 6 + 6 + 650 + 60 + 60 + 5 + 5 + 60 + 60 + 60 + 60 + 60 + 1200 + 1200 + 60 + 60 + 60 + 60 + 1200 + 1200), moI I, moJ J, moR (nr (pg_R fm Nn 17) 97)) = cw (km (nS, fm, [], Nn)) (75, 13220) (moI I) (moJ J) 17 := by
  rw [moS_s, moR_s]
  rfl
theorem ci_130 {d nS : Nat} {fm : Option Nat} {I r : Nat → Nat → Int32} {J : Nat → Nat → Int64} (h : f_163 (moI I) = some r) : tm (d + 1) 130 [.ref 97] (((S97 nS), 40, 3153), I, J, (nr (pg_R fm Nn 17) 97)) (.inl none) (cw (km (nS, fm, [], Nn)) (75, 13220) r (moJ J) 17) :=
  tm_of me_130 rfl (by decide) <| tn_a0 <|
  tn_oi <|
  tn_a0 <|
  tn_bi <|
  tn_pi g97 (by decide) <|
  tn_a0 <|
  tn_ic <|
  tn_pi g97 (by decide) <|
  tn_a0 <|
  tn_bi <|
  tn_arr (q := 8) l97 (by decide) <|
  tn_pr (ap_get g97) (by decide) <|
  tn_a0 <|
  tn_bi <|
  tn_arr (q := 8) (ap_len l97) (by decide) <|
  tn_pr (ap_get (ap_get g97)) (by decide) <|
  tn_a0 <|
  tn_bi <|
  tn_arr (q := 8) (ap_len (ap_len l97)) (by decide) <|
  tn_pr (ap_get (ap_get (ap_get g97))) (by decide) <|
  tn_a0 <|
  tn_si <|
  tn_arr (q := 1300) (ap_len (ap_len (ap_len l97))) (by decide) <|
  tn_pr (ap_get (ap_get (ap_get (ap_get g97)))) (by decide) <|
  tn_a0 <|
  tn_si <|
  tn_arr (q := 500) (ap_len (ap_len (ap_len (ap_len l97)))) (by decide) <|
  tn_pr (ap_get (ap_get (ap_get (ap_get (ap_get g97))))) (by decide) <|
  tn_a0 <|
  tn_ic <|
  tn_pi (ap_get (ap_get (ap_get (ap_get (ap_get g97))))) (by decide) <|
  tn_a0 <|
  tn_ic <|
  tn_arr (q := 2) (ap_len (ap_len (ap_len (ap_len (ap_len l97))))) (by decide) <|
  tn_pr (ap_get (ap_get (ap_get (ap_get (ap_get (ap_get g97)))))) (by decide) <|
  tn_a0 <|
  tn_bi <|
  tn_arr (q := 8) (ap_len (ap_len (ap_len (ap_len (ap_len (ap_len l97)))))) (by decide) <|
  tn_pr (ap_get (ap_get (ap_get (ap_get (ap_get (ap_get (ap_get g97))))))) (by decide) <|
  tn_a0 <|
  tn_bi <|
  tn_arr (q := 8) (ap_len (ap_len (ap_len (ap_len (ap_len (ap_len (ap_len l97))))))) (by decide) <|
  tn_pr (ap_get (ap_get (ap_get (ap_get (ap_get (ap_get (ap_get (ap_get g97)))))))) (by decide) <|
  tn_a0 <|
  tn_bi <|
  tn_arr (q := 8) (ap_len (ap_len (ap_len (ap_len (ap_len (ap_len (ap_len (ap_len l97)))))))) (by decide) <|
  tn_pr (ap_get (ap_get (ap_get (ap_get (ap_get (ap_get (ap_get (ap_get (ap_get g97))))))))) (by decide) <|
  tn_a0 <|
  tn_si <|
  tn_arr (q := 1300) (ap_len (ap_len (ap_len (ap_len (ap_len (ap_len (ap_len (ap_len (ap_len l97))))))))) (by decide) <|
  tn_pr (ap_get (ap_get (ap_get (ap_get (ap_get (ap_get (ap_get (ap_get (ap_get (ap_get g97)))))))))) (by decide) <|
  tn_a0 <|
  tn_si <|
  tn_arr (q := 650) (ap_len (ap_len (ap_len (ap_len (ap_len (ap_len (ap_len (ap_len (ap_len (ap_len l97)))))))))) (by decide) <|
  tn_pr (ap_get (ap_get (ap_get (ap_get (ap_get (ap_get (ap_get (ap_get (ap_get (ap_get (ap_get g97))))))))))) (by decide) <|
  tn_a0 <|
  tn_bi <|
  tn_arr (q := 9) (ap_len (ap_len (ap_len (ap_len (ap_len (ap_len (ap_len (ap_len (ap_len (ap_len (ap_len l97))))))))))) (by decide) <|
  tn_pr (ap_get (ap_get (ap_get (ap_get (ap_get (ap_get (ap_get (ap_get (ap_get (ap_get (ap_get (ap_get g97)))))))))))) (by decide) <|
  tn_a0 <|
  tn_bi <|
  tn_arr (q := 60) (ap_len (ap_len (ap_len (ap_len (ap_len (ap_len (ap_len (ap_len (ap_len (ap_len (ap_len (ap_len l97)))))))))))) (by decide) <|
  tn_pr (ap_get (ap_get (ap_get (ap_get (ap_get (ap_get (ap_get (ap_get (ap_get (ap_get (ap_get (ap_get (ap_get g97))))))))))))) (by decide) <|
  tn_a0 <|
  tn_bi <|
  tn_arr (q := 60) (ap_len (ap_len (ap_len (ap_len (ap_len (ap_len (ap_len (ap_len (ap_len (ap_len (ap_len (ap_len (ap_len l97))))))))))))) (by decide) <|
  tn_pr (ap_get (ap_get (ap_get (ap_get (ap_get (ap_get (ap_get (ap_get (ap_get (ap_get (ap_get (ap_get (ap_get (ap_get g97)))))))))))))) (by decide) <|
  tn_a0 <|
  tn_bi <|
  tn_arr (q := 6) (ap_len (ap_len (ap_len (ap_len (ap_len (ap_len (ap_len (ap_len (ap_len (ap_len (ap_len (ap_len (ap_len (ap_len l97)))))))))))))) (by decide) <|
  tn_pr (ap_get (ap_get (ap_get (ap_get (ap_get (ap_get (ap_get (ap_get (ap_get (ap_get (ap_get (ap_get (ap_get (ap_get (ap_get g97))))))))))))))) (by decide) <|
  tn_a0 <|
  tn_bi <|
  tn_arr (q := 6) (ap_len (ap_len (ap_len (ap_len (ap_len (ap_len (ap_len (ap_len (ap_len (ap_len (ap_len (ap_len (ap_len (ap_len (ap_len l97))))))))))))))) (by decide) <|
  tn_pr (ap_get (ap_get (ap_get (ap_get (ap_get (ap_get (ap_get (ap_get (ap_get (ap_get (ap_get (ap_get (ap_get (ap_get (ap_get (ap_get g97)))))))))))))))) (by decide) <|
  tn_a0 <|
  tn_bi <|
  tn_arr (q := 6) (ap_len (ap_len (ap_len (ap_len (ap_len (ap_len (ap_len (ap_len (ap_len (ap_len (ap_len (ap_len (ap_len (ap_len (ap_len (ap_len l97)))))))))))))))) (by decide) <|
  tn_pr (ap_get (ap_get (ap_get (ap_get (ap_get (ap_get (ap_get (ap_get (ap_get (ap_get (ap_get (ap_get (ap_get (ap_get (ap_get (ap_get (ap_get g97))))))))))))))))) (by decide) <|
  tn_a0 <|
  tn_si <|
  tn_arr (q := 650) (ap_len (ap_len (ap_len (ap_len (ap_len (ap_len (ap_len (ap_len (ap_len (ap_len (ap_len (ap_len (ap_len (ap_len (ap_len (ap_len (ap_len l97))))))))))))))))) (by decide) <|
  tn_pr (ap_get (ap_get (ap_get (ap_get (ap_get (ap_get (ap_get (ap_get (ap_get (ap_get (ap_get (ap_get (ap_get (ap_get (ap_get (ap_get (ap_get (ap_get g97)))))))))))))))))) (by decide) <|
  tn_a0 <|
  tn_bi <|
  tn_arr (q := 60) (ap_len (ap_len (ap_len (ap_len (ap_len (ap_len (ap_len (ap_len (ap_len (ap_len (ap_len (ap_len (ap_len (ap_len (ap_len (ap_len (ap_len (ap_len l97)))))))))))))))))) (by decide) <|
  tn_pr (ap_get (ap_get (ap_get (ap_get (ap_get (ap_get (ap_get (ap_get (ap_get (ap_get (ap_get (ap_get (ap_get (ap_get (ap_get (ap_get (ap_get (ap_get (ap_get g97))))))))))))))))))) (by decide) <|
  tn_a0 <|
  tn_bi <|
  tn_arr (q := 60) (ap_len (ap_len (ap_len (ap_len (ap_len (ap_len (ap_len (ap_len (ap_len (ap_len (ap_len (ap_len (ap_len (ap_len (ap_len (ap_len (ap_len (ap_len (ap_len l97))))))))))))))))))) (by decide) <|
  tn_pr (ap_get (ap_get (ap_get (ap_get (ap_get (ap_get (ap_get (ap_get (ap_get (ap_get (ap_get (ap_get (ap_get (ap_get (ap_get (ap_get (ap_get (ap_get (ap_get (ap_get g97)))))))))))))))))))) (by decide) <|
  tn_a0 <|
  tn_ic <|
  tn_arr (q := 5) (ap_len (ap_len (ap_len (ap_len (ap_len (ap_len (ap_len (ap_len (ap_len (ap_len (ap_len (ap_len (ap_len (ap_len (ap_len (ap_len (ap_len (ap_len (ap_len (ap_len l97)))))))))))))))))))) (by decide) <|
  tn_pr (ap_get (ap_get (ap_get (ap_get (ap_get (ap_get (ap_get (ap_get (ap_get (ap_get (ap_get (ap_get (ap_get (ap_get (ap_get (ap_get (ap_get (ap_get (ap_get (ap_get (ap_get g97))))))))))))))))))))) (by decide) <|
  tn_a0 <|
  tn_ic <|
  tn_arr (q := 5) (ap_len (ap_len (ap_len (ap_len (ap_len (ap_len (ap_len (ap_len (ap_len (ap_len (ap_len (ap_len (ap_len (ap_len (ap_len (ap_len (ap_len (ap_len (ap_len (ap_len (ap_len l97))))))))))))))))))))) (by decide) <|
  tn_pr (ap_get (ap_get (ap_get (ap_get (ap_get (ap_get (ap_get (ap_get (ap_get (ap_get (ap_get (ap_get (ap_get (ap_get (ap_get (ap_get (ap_get (ap_get (ap_get (ap_get (ap_get (ap_get g97)))))))))))))))))))))) (by decide) <|
  tn_a0 <|
  tn_ic <|
  tn_pi (ap_get (ap_get (ap_get (ap_get (ap_get (ap_get (ap_get (ap_get (ap_get (ap_get (ap_get (ap_get (ap_get (ap_get (ap_get (ap_get (ap_get (ap_get (ap_get (ap_get (ap_get (ap_get g97)))))))))))))))))))))) (by decide) <|
  tn_a0 <|
  tn_bi <|
  tn_arr (q := 60) (ap_len (ap_len (ap_len (ap_len (ap_len (ap_len (ap_len (ap_len (ap_len (ap_len (ap_len (ap_len (ap_len (ap_len (ap_len (ap_len (ap_len (ap_len (ap_len (ap_len (ap_len (ap_len l97)))))))))))))))))))))) (by decide) <|
  tn_pr (ap_get (ap_get (ap_get (ap_get (ap_get (ap_get (ap_get (ap_get (ap_get (ap_get (ap_get (ap_get (ap_get (ap_get (ap_get (ap_get (ap_get (ap_get (ap_get (ap_get (ap_get (ap_get (ap_get g97))))))))))))))))))))))) (by decide) <|
  tn_a0 <|
  tn_bi <|
  tn_arr (q := 60) (ap_len (ap_len (ap_len (ap_len (ap_len (ap_len (ap_len (ap_len (ap_len (ap_len (ap_len (ap_len (ap_len (ap_len (ap_len (ap_len (ap_len (ap_len (ap_len (ap_len (ap_len (ap_len (ap_len l97))))))))))))))))))))))) (by decide) <|
  tn_pr (ap_get (ap_get (ap_get (ap_get (ap_get (ap_get (ap_get (ap_get (ap_get (ap_get (ap_get (ap_get (ap_get (ap_get (ap_get (ap_get (ap_get (ap_get (ap_get (ap_get (ap_get (ap_get (ap_get (ap_get g97)))))))))))))))))))))))) (by decide) <|
  tn_a0 <|
  tn_bi <|
  tn_arr (q := 60) (ap_len (ap_len (ap_len (ap_len (ap_len (ap_len (ap_len (ap_len (ap_len (ap_len (ap_len (ap_len (ap_len (ap_len (ap_len (ap_len (ap_len (ap_len (ap_len (ap_len (ap_len (ap_len (ap_len (ap_len l97)))))))))))))))))))))))) (by decide) <|
  tn_pr (ap_get (ap_get (ap_get (ap_get (ap_get (ap_get (ap_get (ap_get (ap_get (ap_get (ap_get (ap_get (ap_get (ap_get (ap_get (ap_get (ap_get (ap_get (ap_get (ap_get (ap_get (ap_get (ap_get (ap_get (ap_get g97))))))))))))))))))))))))) (by decide) <|
  tn_a0 <|
  tn_bi <|
  tn_arr (q := 60) (ap_len (ap_len (ap_len (ap_len (ap_len (ap_len (ap_len (ap_len (ap_len (ap_len (ap_len (ap_len (ap_len (ap_len (ap_len (ap_len (ap_len (ap_len (ap_len (ap_len (ap_len (ap_len (ap_len (ap_len (ap_len l97))))))))))))))))))))))))) (by decide) <|
  tn_pr (ap_get (ap_get (ap_get (ap_get (ap_get (ap_get (ap_get (ap_get (ap_get (ap_get (ap_get (ap_get (ap_get (ap_get (ap_get (ap_get (ap_get (ap_get (ap_get (ap_get (ap_get (ap_get (ap_get (ap_get (ap_get (ap_get g97)))))))))))))))))))))))))) (by decide) <|
  tn_a0 <|
  tn_bi <|
  tn_arr (q := 60) (ap_len (ap_len (ap_len (ap_len (ap_len (ap_len (ap_len (ap_len (ap_len (ap_len (ap_len (ap_len (ap_len (ap_len (ap_len (ap_len (ap_len (ap_len (ap_len (ap_len (ap_len (ap_len (ap_len (ap_len (ap_len (ap_len l97)))))))))))))))))))))))))) (by decide) <|
  tn_pr (ap_get (ap_get (ap_get (ap_get (ap_get (ap_get (ap_get (ap_get (ap_get (ap_get (ap_get (ap_get (ap_get (ap_get (ap_get (ap_get (ap_get (ap_get (ap_get (ap_get (ap_get (ap_get (ap_get (ap_get (ap_get (ap_get (ap_get g97))))))))))))))))))))))))))) (by decide) <|
  tn_a0 <|
  tn_si <|
  tn_arr (q := 1200) (ap_len (ap_len (ap_len (ap_len (ap_len (ap_len (ap_len (ap_len (ap_len (ap_len (ap_len (ap_len (ap_len (ap_len (ap_len (ap_len (ap_len (ap_len (ap_len (ap_len (ap_len (ap_len (ap_len (ap_len (ap_len (ap_len (ap_len l97))))))))))))))))))))))))))) (by decide) <|
  tn_pr (ap_get (ap_get (ap_get (ap_get (ap_get (ap_get (ap_get (ap_get (ap_get (ap_get (ap_get (ap_get (ap_get (ap_get (ap_get (ap_get (ap_get (ap_get (ap_get (ap_get (ap_get (ap_get (ap_get (ap_get (ap_get (ap_get (ap_get (ap_get g97)))))))))))))))))))))))))))) (by decide) <|
  tn_a0 <|
  tn_si <|
  tn_arr (q := 1200) (ap_len (ap_len (ap_len (ap_len (ap_len (ap_len (ap_len (ap_len (ap_len (ap_len (ap_len (ap_len (ap_len (ap_len (ap_len (ap_len (ap_len (ap_len (ap_len (ap_len (ap_len (ap_len (ap_len (ap_len (ap_len (ap_len (ap_len (ap_len l97)))))))))))))))))))))))))))) (by decide) <|
  tn_pr (ap_get (ap_get (ap_get (ap_get (ap_get (ap_get (ap_get (ap_get (ap_get (ap_get (ap_get (ap_get (ap_get (ap_get (ap_get (ap_get (ap_get (ap_get (ap_get (ap_get (ap_get (ap_get (ap_get (ap_get (ap_get (ap_get (ap_get (ap_get (ap_get g97))))))))))))))))))))))))))))) (by decide) <|
  tn_a0 <|
  tn_bi <|
  tn_arr (q := 60) (ap_len (ap_len (ap_len (ap_len (ap_len (ap_len (ap_len (ap_len (ap_len (ap_len (ap_len (ap_len (ap_len (ap_len (ap_len (ap_len (ap_len (ap_len (ap_len (ap_len (ap_len (ap_len (ap_len (ap_len (ap_len (ap_len (ap_len (ap_len (ap_len l97))))))))))))))))))))))))))))) (by decide) <|
  tn_pr (ap_get (ap_get (ap_get (ap_get (ap_get (ap_get (ap_get (ap_get (ap_get (ap_get (ap_get (ap_get (ap_get (ap_get (ap_get (ap_get (ap_get (ap_get (ap_get (ap_get (ap_get (ap_get (ap_get (ap_get (ap_get (ap_get (ap_get (ap_get (ap_get (ap_get g97)))))))))))))))))))))))))))))) (by decide) <|
  tn_a0 <|
  tn_bi <|
  tn_arr (q := 60) (ap_len (ap_len (ap_len (ap_len (ap_len (ap_len (ap_len (ap_len (ap_len (ap_len (ap_len (ap_len (ap_len (ap_len (ap_len (ap_len (ap_len (ap_len (ap_len (ap_len (ap_len (ap_len (ap_len (ap_len (ap_len (ap_len (ap_len (ap_len (ap_len (ap_len l97)))))))))))))))))))))))))))))) (by decide) <|
  tn_pr (ap_get (ap_get (ap_get (ap_get (ap_get (ap_get (ap_get (ap_get (ap_get (ap_get (ap_get (ap_get (ap_get (ap_get (ap_get (ap_get (ap_get (ap_get (ap_get (ap_get (ap_get (ap_get (ap_get (ap_get (ap_get (ap_get (ap_get (ap_get (ap_get (ap_get (ap_get g97))))))))))))))))))))))))))))))) (by decide) <|
  tn_a0 <|
  tn_bi <|
  tn_arr (q := 60) (ap_len (ap_len (ap_len (ap_len (ap_len (ap_len (ap_len (ap_len (ap_len (ap_len (ap_len (ap_len (ap_len (ap_len (ap_len (ap_len (ap_len (ap_len (ap_len (ap_len (ap_len (ap_len (ap_len (ap_len (ap_len (ap_len (ap_len (ap_len (ap_len (ap_len (ap_len l97))))))))))))))))))))))))))))))) (by decide) <|
  tn_pr (ap_get (ap_get (ap_get (ap_get (ap_get (ap_get (ap_get (ap_get (ap_get (ap_get (ap_get (ap_get (ap_get (ap_get (ap_get (ap_get (ap_get (ap_get (ap_get (ap_get (ap_get (ap_get (ap_get (ap_get (ap_get (ap_get (ap_get (ap_get (ap_get (ap_get (ap_get (ap_get g97)))))))))))))))))))))))))))))))) (by decide) <|
  tn_a0 <|
  tn_bi <|
  tn_arr (q := 60) (ap_len (ap_len (ap_len (ap_len (ap_len (ap_len (ap_len (ap_len (ap_len (ap_len (ap_len (ap_len (ap_len (ap_len (ap_len (ap_len (ap_len (ap_len (ap_len (ap_len (ap_len (ap_len (ap_len (ap_len (ap_len (ap_len (ap_len (ap_len (ap_len (ap_len (ap_len (ap_len l97)))))))))))))))))))))))))))))))) (by decide) <|
  tn_pr (ap_get (ap_get (ap_get (ap_get (ap_get (ap_get (ap_get (ap_get (ap_get (ap_get (ap_get (ap_get (ap_get (ap_get (ap_get (ap_get (ap_get (ap_get (ap_get (ap_get (ap_get (ap_get (ap_get (ap_get (ap_get (ap_get (ap_get (ap_get (ap_get (ap_get (ap_get (ap_get (ap_get g97))))))))))))))))))))))))))))))))) (by decide) <|
  tn_a0 <|
  tn_si <|
  tn_arr (q := 1200) (ap_len (ap_len (ap_len (ap_len (ap_len (ap_len (ap_len (ap_len (ap_len (ap_len (ap_len (ap_len (ap_len (ap_len (ap_len (ap_len (ap_len (ap_len (ap_len (ap_len (ap_len (ap_len (ap_len (ap_len (ap_len (ap_len (ap_len (ap_len (ap_len (ap_len (ap_len (ap_len (ap_len l97))))))))))))))))))))))))))))))))) (by decide) <|
  tn_pr (ap_get (ap_get (ap_get (ap_get (ap_get (ap_get (ap_get (ap_get (ap_get (ap_get (ap_get (ap_get (ap_get (ap_get (ap_get (ap_get (ap_get (ap_get (ap_get (ap_get (ap_get (ap_get (ap_get (ap_get (ap_get (ap_get (ap_get (ap_get (ap_get (ap_get (ap_get (ap_get (ap_get (ap_get g97)))))))))))))))))))))))))))))))))) (by decide) <|
  tn_a0 <|
  tn_si <|
  tn_arr (q := 1200) (ap_len (ap_len (ap_len (ap_len (ap_len (ap_len (ap_len (ap_len (ap_len (ap_len (ap_len (ap_len (ap_len (ap_len (ap_len (ap_len (ap_len (ap_len (ap_len (ap_len (ap_len (ap_len (ap_len (ap_len (ap_len (ap_len (ap_len (ap_len (ap_len (ap_len (ap_len (ap_len (ap_len (ap_len l97)))))))))))))))))))))))))))))))))) (by decide) <|
  tn_pr (ap_get (ap_get (ap_get (ap_get (ap_get (ap_get (ap_get (ap_get (ap_get (ap_get (ap_get (ap_get (ap_get (ap_get (ap_get (ap_get (ap_get (ap_get (ap_get (ap_get (ap_get (ap_get (ap_get (ap_get (ap_get (ap_get (ap_get (ap_get (ap_get (ap_get (ap_get (ap_get (ap_get (ap_get (ap_get g97))))))))))))))))))))))))))))))))))) (by decide) <|
  tn_a0 <|
  tn_v1 (by decide) (ap_get (ap_get (ap_get (ap_get (ap_get (ap_get (ap_get (ap_get (ap_get (ap_get (ap_get (ap_get (ap_get (ap_get (ap_get (ap_get (ap_get (ap_get (ap_get (ap_get (ap_get (ap_get (ap_get (ap_get (ap_get (ap_get (ap_get (ap_get (ap_get (ap_get (ap_get (ap_get (ap_get (ap_get (ap_get g97))))))))))))))))))))))))))))))))))) (by decide) (by decide) (tm_cast moW (m_163 h)) <|
  tn_rt rfl
