/-! the class's constructor, by wip/whole/ctor3.py -/
def Nn : Nat → Nat → Option Nat := fun _ _ => none
def Rz (fm : Option Nat) : Nat → Nat → Option Nat := fun a k => if a < 58 then pg_R fm Nn 17 a k else none
def S58 (nS : Nat) : List ex_Sh := (.inr (.int, nS) :: pg_S.take 57) ++ [.inl 8]
theorem l58 {nS : Nat} : (S58 nS).length = 59 := rfl
theorem g58 {nS : Nat} : (S58 nS)[58]? = some (.inl 8) := rfl
theorem g55 {nS : Nat} : (S58 nS)[55]? = some (.inr (.int, 4)) := rfl
def ctI (I : Nat → Nat → Int32) : Nat → Nat → Int32 := (up (nw (nw (nw (nw (nw (up (nw (nw (nw (nw (nw (up (up (nw (nw (up (up (up (up (up (nw (up (up (up (up (up (up (nw (nw (nw (nw (nw (up (up (up (up (nw (nw (nw (nw (nw (up (up (up (up (up (up (cpyf (up (up (up (up (up (up (up (nw (nw (nw (nw (nw (nw (nw (up (up (nw (nw (nw (nw (nw (up (up (up (up (up (up (up (nw (nw (up (up (up (up (nw I 59) 58 9 (0)) 58 10 (-1)) 58 11 (0)) 58 12 (0)) 60) 61) 60 1 (0)) 60 2 (0)) 60 3 (0)) 60 4 (0)) 60 5 (0)) 60 7 (0)) 60 8 (0)) 62) 63) 64) 65) 66) 62 6 (0)) 62 7 (-1)) 67) 68) 69) 70) 71) 72) 73) 67 7 (0)) 67 8 (0)) 67 9 (0)) 67 10 (0)) 67 11 (1)) 67 12 (1)) 67 13 (0)) 55 63 4) 64 0 0) 64 1 0) 64 2 0) 64 3 0) 62 6 0) 67 7 0) 74) 75) 76) 77) 78) 74 4 (0)) 74 5 (0)) 74 6 (0)) 74 7 (0)) 79) 80) 81) 82) 83) 79 4 (0)) 79 5 (0)) 79 6 (0)) 79 7 (0)) 79 8 (0)) 79 9 (1)) 84) 84 2 (0)) 84 3 (0)) 84 4 (0)) 84 5 (0)) 84 6 (0)) 85) 86) 85 3 (0)) 85 4 (0)) 87) 88) 89) 90) 91) 87 4 (0)) 92) 93) 94) 95) 96) 92 4 (0))
def ctJ (J : Nat → Nat → Int64) : Nat → Nat → Int64 := (nw (nw (nw (nw (nw (nw (nw (nw (nw (nw (nw (nw (nw (nw (nw (nw (nw (nw (nw (nw (nw (nw (nw (nw (nw (nw (nw (nw (nw (nw (nw (nw (nw (nw (nw (nw (nw (nw J 59) 60) 61) 62) 63) 64) 65) 66) 67) 68) 69) 70) 71) 72) 73) 74) 75) 76) 77) 78) 79) 80) 81) 82) 83) 84) 85) 86) 87) 88) 89) 90) 91) 92) 93) 94) 95) 96)
def ctR (R : Nat → Nat → Option Nat) : Nat → Nat → Option Nat := (up (up (up (up (up (nr (up (up (up (up (up (nr (up (up (up (up (nr (up (up (up (nr (up (up (up (up (up (nr (up (up (up (up (up (nr (up (up (up (up (up (up (up (up (up (nr (up (up (up (up (up (nr (up (up (up (nr (up R 58 8 (some 59)) 60) 60 0 (some 61)) 60 6 (some 17)) 58 0 (some 60)) 62) 62 2 (some 63)) 62 3 (some 64)) 62 4 (some 65)) 62 5 (some 66)) 62 0 (some 60)) 67) 67 1 (some 68)) 67 2 (some 69)) 67 3 (some 70)) 67 4 (some 71)) 67 5 (some 72)) 67 6 (some 73)) 67 0 (some 60)) 62 1 (some 67)) 58 1 (some 62)) 74) 74 0 (some 75)) 74 1 (some 76)) 74 2 (some 77)) 74 3 (some 78)) 58 2 (some 74)) 79) 79 0 (some 80)) 79 1 (some 81)) 79 2 (some 82)) 79 3 (some 83)) 58 3 (some 79)) 84) 84 0 (some 79)) 84 1 (some 74)) 58 4 (some 84)) 85) 85 2 (some 86)) 85 0 (some 79)) 85 1 (some 74)) 58 5 (some 85)) 87) 87 0 (some 88)) 87 1 (some 89)) 87 2 (some 90)) 87 3 (some 91)) 58 6 (some 87)) 92) 92 0 (some 93)) 92 1 (some 94)) 92 2 (some 95)) 92 3 (some 96)) 58 7 (some 92))
def ctS (S : List ex_Sh) : List ex_Sh := ((((((((((((((((((((((((((((((((((((((S ++ [.inr (.int, 60)]) ++ [.inl 6]) ++ [.inr (.byte, 500)]) ++ [.inl 2]) ++ [.inr (.int, 4)]) ++ [.inr (.boolean, 4)]) ++ [.inr (.int, 8)]) ++ [.inr (.int, 8)]) ++ [.inl 3]) ++ [.inr (.int, 500)]) ++ [.inr (.int, 8)]) ++ [.inr (.int, 100)]) ++ [.inr (.boolean, 7)]) ++ [.inr (.int, 6)]) ++ [.inr (.int, 50)]) ++ [.inl 0]) ++ [.inr (.int, 180)]) ++ [.inr (.int, 180)]) ++ [.inr (.int, 18)]) ++ [.inr (.int, 6)]) ++ [.inl 4]) ++ [.inr (.int, 8)]) ++ [.inr (.int, 8)]) ++ [.inr (.int, 48)]) ++ [.inr (.int, 480)]) ++ [.inl 7]) ++ [.inl 1]) ++ [.inr (.int, 420)]) ++ [.inl 5]) ++ [.inr (.int, 60)]) ++ [.inr (.int, 60)]) ++ [.inr (.int, 60)]) ++ [.inr (.int, 20)]) ++ [.inl 5]) ++ [.inr (.int, 60)]) ++ [.inr (.int, 60)]) ++ [.inr (.int, 60)]) ++ [.inr (.int, 20)])
theorem ctR_s {fm : Option Nat} : ctR (nr (Rz fm) 58) = pg_R fm Nn 17 := by
  unfold ctR
  funext a
  by_cases h58 : a = 58
  · subst h58
    funext k
    rcases k with _ | k
    · rfl
    rcases k with _ | k
    · rfl
    rcases k with _ | k
    · rfl
    rcases k with _ | k
    · rfl
    rcases k with _ | k
    · rfl
    rcases k with _ | k
    · rfl
    rcases k with _ | k
    · rfl
    rcases k with _ | k
    · rfl
    rcases k with _ | k
    · rfl
    rfl
  by_cases h59 : a = 59
  · subst h59
    funext k
    rfl
  by_cases h60 : a = 60
  · subst h60
    funext k
    rcases k with _ | k
    · rfl
    rcases k with _ | k
    · rfl
    rcases k with _ | k
    · rfl
    rcases k with _ | k
    · rfl
    rcases k with _ | k
    · rfl
    rcases k with _ | k
    · rfl
    rcases k with _ | k
    · rfl
    rfl
  by_cases h61 : a = 61
  · subst h61
    funext k
    rfl
  by_cases h62 : a = 62
  · subst h62
    funext k
    rcases k with _ | k
    · rfl
    rcases k with _ | k
    · rfl
    rcases k with _ | k
    · rfl
    rcases k with _ | k
    · rfl
    rcases k with _ | k
    · rfl
    rcases k with _ | k
    · rfl
    rfl
  by_cases h63 : a = 63
  · subst h63
    funext k
    rfl
  by_cases h64 : a = 64
  · subst h64
    funext k
    rfl
  by_cases h65 : a = 65
  · subst h65
    funext k
    rfl
  by_cases h66 : a = 66
  · subst h66
    funext k
    rfl
  by_cases h67 : a = 67
  · subst h67
    funext k
    rcases k with _ | k
    · rfl
    rcases k with _ | k
    · rfl
    rcases k with _ | k
    · rfl
    rcases k with _ | k
    · rfl
    rcases k with _ | k
    · rfl
    rcases k with _ | k
    · rfl
    rcases k with _ | k
    · rfl
    rfl
  by_cases h68 : a = 68
  · subst h68
    funext k
    rfl
  by_cases h69 : a = 69
  · subst h69
    funext k
    rfl
  by_cases h70 : a = 70
  · subst h70
    funext k
    rfl
  by_cases h71 : a = 71
  · subst h71
    funext k
    rfl
  by_cases h72 : a = 72
  · subst h72
    funext k
    rfl
  by_cases h73 : a = 73
  · subst h73
    funext k
    rfl
  by_cases h74 : a = 74
  · subst h74
    funext k
    rcases k with _ | k
    · rfl
    rcases k with _ | k
    · rfl
    rcases k with _ | k
    · rfl
    rcases k with _ | k
    · rfl
    rfl
  by_cases h75 : a = 75
  · subst h75
    funext k
    rfl
  by_cases h76 : a = 76
  · subst h76
    funext k
    rfl
  by_cases h77 : a = 77
  · subst h77
    funext k
    rfl
  by_cases h78 : a = 78
  · subst h78
    funext k
    rfl
  by_cases h79 : a = 79
  · subst h79
    funext k
    rcases k with _ | k
    · rfl
    rcases k with _ | k
    · rfl
    rcases k with _ | k
    · rfl
    rcases k with _ | k
    · rfl
    rfl
  by_cases h80 : a = 80
  · subst h80
    funext k
    rfl
  by_cases h81 : a = 81
  · subst h81
    funext k
    rfl
  by_cases h82 : a = 82
  · subst h82
    funext k
    rfl
  by_cases h83 : a = 83
  · subst h83
    funext k
    rfl
  by_cases h84 : a = 84
  · subst h84
    funext k
    rcases k with _ | k
    · rfl
    rcases k with _ | k
    · rfl
    rfl
  by_cases h85 : a = 85
  · subst h85
    funext k
    rcases k with _ | k
    · rfl
    rcases k with _ | k
    · rfl
    rcases k with _ | k
    · rfl
    rfl
  by_cases h86 : a = 86
  · subst h86
    funext k
    rfl
  by_cases h87 : a = 87
  · subst h87
    funext k
    rcases k with _ | k
    · rfl
    rcases k with _ | k
    · rfl
    rcases k with _ | k
    · rfl
    rcases k with _ | k
    · rfl
    rfl
  by_cases h88 : a = 88
  · subst h88
    funext k
    rfl
  by_cases h89 : a = 89
  · subst h89
    funext k
    rfl
  by_cases h90 : a = 90
  · subst h90
    funext k
    rfl
  by_cases h91 : a = 91
  · subst h91
    funext k
    rfl
  by_cases h92 : a = 92
  · subst h92
    funext k
    rcases k with _ | k
    · rfl
    rcases k with _ | k
    · rfl
    rcases k with _ | k
    · rfl
    rcases k with _ | k
    · rfl
    rfl
  by_cases h93 : a = 93
  · subst h93
    funext k
    rfl
  by_cases h94 : a = 94
  · subst h94
    funext k
    rfl
  by_cases h95 : a = 95
  · subst h95
    funext k
    rfl
  by_cases h96 : a = 96
  · subst h96
    funext k
    rfl
  simp only [up, nr, ex_set, if_neg h58, if_neg h60, if_neg h62, if_neg h67, if_neg h74, if_neg h79, if_neg h84, if_neg h85, if_neg h87, if_neg h92]
  funext k
  unfold Rz
  by_cases l : a < 58
  · rw [if_pos l]
  · rw [if_neg l]
    unfold pg_R
    rw [if_neg h60, if_neg (by omega), if_neg (by omega)]
    rfl
theorem ctS_d : pg_S.drop 57 = [.inl 8, .inr (.int, 60), .inl 6, .inr (.byte, 500), .inl 2, .inr (.int, 4), .inr (.boolean, 4), .inr (.int, 8), .inr (.int, 8), .inl 3, .inr (.int, 500), .inr (.int, 8), .inr (.int, 100), .inr (.boolean, 7), .inr (.int, 6), .inr (.int, 50), .inl 0, .inr (.int, 180), .inr (.int, 180), .inr (.int, 18), .inr (.int, 6), .inl 4, .inr (.int, 8), .inr (.int, 8), .inr (.int, 48), .inr (.int, 480), .inl 7, .inl 1, .inr (.int, 420), .inl 5, .inr (.int, 60), .inr (.int, 60), .inr (.int, 60), .inr (.int, 20), .inl 5, .inr (.int, 60), .inr (.int, 60), .inr (.int, 60), .inr (.int, 20)] := by decide +kernel
theorem ctS_s {nS : Nat} : ctS (S58 nS) = .inr (.int, nS) :: (pg_S ++ []) := by
  unfold ctS S58
  simp only [List.append_assoc, List.cons_append, List.nil_append, List.append_nil]
  rw [← ctS_d, List.take_append_drop]
theorem ctW {nS : Nat} {fm : Option Nat} {I : Nat → Nat → Int32} {J : Nat → Nat → Int64} : ((ctS (S58 nS), 1 + 1 + 1 + 1 + 1 + 1 + 1 + 1 + 1 + 1 + 1 + 1 + 1 + 1 + 1 + 1 + 1 + 1 + 1 + 1 + 1 + 1 + 1 + 1 + 1 + 1 + 1 + 1 + 1 + 1 + 1 + 1 + 1 + 1 + 1 + 1 + 1 + 1 + 1, 13 + 60 + 9 + 500 + 8 + 4 + 4 + 8 + 8 + 14 + 500 + 8 + 100 + 7 + 6 + 50 + 8 + 180 + 180 + 18 + 6 + 10 + 8 + 8 + 48 + 480 + 7 + 5 + 420 + 5 + 60 + 60 + 60 + 20 + 5 + 60 + 60 + 60 + 20), ctI I, ctJ J, ctR (nr (Rz fm) 58)) = cw (nS, fm, [], Nn) (39, 3087) (ctI I) (ctJ J) 17 := by
  rw [ctS_s, ctR_s]
  rfl
theorem ci_87 {d nS : Nat} {fm : Option Nat} {I r : Nat → Nat → Int32} {J : Nat → Nat → Int64} (h : f_114 (ctI I) = some r) : tm (d + 6) 87 [.ref 58] (((S58 nS), 1, 13), I, J, (nr (Rz fm) 58)) (.inl none) (cw (nS, fm, [], Nn) (39, 3087) r (ctJ J) 17) :=
  tm_of me_87 rfl (by decide) <| tn_a0 <|
  tn_oi <|
  tn_a0 <|
  tn_bi <|
  tn_arr (q := 60) l58 (by decide) <|
  tn_pr (ap_get g58) (by decide) <|
  tn_a0 <|
  tn_ic <|
  tn_pb (v := 0) (ap_get g58) (by decide) (by decide) <|
  tn_a0 <|
  tn_ic <|
  tn_pi (ap_get g58) (by decide) <|
  tn_a0 <|
  tn_ic <|
  tn_pi (ap_get g58) (by decide) <|
  tn_a0 <|
  tn_ic <|
  tn_pi (ap_get g58) (by decide) <|
  tn_a0 <|
  tn_new (q := 9) (ap_len l58) (by rfl) <|
  tn_dup <|
  tn_i1 (by decide) (ap_new (ap_len l58)) (by decide) (by decide) (ci_69_60 (ap_len (ap_len l58)) (ap_new (ap_len l58))) <|
  tn_pr (ap_get (ap_get (ap_get g58))) (by decide) <|
  tn_a0 <|
  tn_new (q := 8) (ap_len (ap_len (ap_len l58))) (by rfl) <|
  tn_dup <|
  tn_a0 <|
  tn_gr (b := 60) (ap_get (ap_get (ap_get (ap_get g58)))) (by decide) (by decide) (by rfl) <|
  tn_i2 (by decide) (ap_new (ap_len (ap_len (ap_len l58)))) (by decide) (by decide) (ci_15 (ap_len (ap_len (ap_len (ap_len l58)))) (ap_new (ap_len (ap_len (ap_len l58)))) (ap_get (ap_get (ap_get (ap_get g55))))) <|
  tn_pr (ap_get (ap_get (ap_get (ap_get (ap_get (ap_get (ap_get (ap_get (ap_get (ap_get (ap_get (ap_get (ap_get (ap_get (ap_get g58))))))))))))))) (by decide) <|
  tn_a0 <|
  tn_new (q := 8) (ap_len (ap_len (ap_len (ap_len (ap_len (ap_len (ap_len (ap_len (ap_len (ap_len (ap_len (ap_len (ap_len (ap_len (ap_len l58))))))))))))))) (by rfl) <|
  tn_dup <|
  tn_i1 (by decide) (ap_new (ap_len (ap_len (ap_len (ap_len (ap_len (ap_len (ap_len (ap_len (ap_len (ap_len (ap_len (ap_len (ap_len (ap_len (ap_len l58)))))))))))))))) (by decide) (by decide) (ci_0_74 (ap_len (ap_len (ap_len (ap_len (ap_len (ap_len (ap_len (ap_len (ap_len (ap_len (ap_len (ap_len (ap_len (ap_len (ap_len (ap_len l58)))))))))))))))) (ap_new (ap_len (ap_len (ap_len (ap_len (ap_len (ap_len (ap_len (ap_len (ap_len (ap_len (ap_len (ap_len (ap_len (ap_len (ap_len l58))))))))))))))))) <|
  tn_pr (ap_get (ap_get (ap_get (ap_get (ap_get (ap_get (ap_get (ap_get (ap_get (ap_get (ap_get (ap_get (ap_get (ap_get (ap_get (ap_get (ap_get (ap_get (ap_get (ap_get g58)))))))))))))))))))) (by decide) <|
  tn_a0 <|
  tn_new (q := 10) (ap_len (ap_len (ap_len (ap_len (ap_len (ap_len (ap_len (ap_len (ap_len (ap_len (ap_len (ap_len (ap_len (ap_len (ap_len (ap_len (ap_len (ap_len (ap_len (ap_len l58)))))))))))))))))))) (by rfl) <|
  tn_dup <|
  tn_i1 (by decide) (ap_new (ap_len (ap_len (ap_len (ap_len (ap_len (ap_len (ap_len (ap_len (ap_len (ap_len (ap_len (ap_len (ap_len (ap_len (ap_len (ap_len (ap_len (ap_len (ap_len (ap_len l58))))))))))))))))))))) (by decide) (by decide) (ci_46_79 (ap_len (ap_len (ap_len (ap_len (ap_len (ap_len (ap_len (ap_len (ap_len (ap_len (ap_len (ap_len (ap_len (ap_len (ap_len (ap_len (ap_len (ap_len (ap_len (ap_len (ap_len l58))))))))))))))))))))) (ap_new (ap_len (ap_len (ap_len (ap_len (ap_len (ap_len (ap_len (ap_len (ap_len (ap_len (ap_len (ap_len (ap_len (ap_len (ap_len (ap_len (ap_len (ap_len (ap_len (ap_len l58)))))))))))))))))))))) <|
  tn_pr (ap_get (ap_get (ap_get (ap_get (ap_get (ap_get (ap_get (ap_get (ap_get (ap_get (ap_get (ap_get (ap_get (ap_get (ap_get (ap_get (ap_get (ap_get (ap_get (ap_get (ap_get (ap_get (ap_get (ap_get (ap_get g58))))))))))))))))))))))))) (by decide) <|
  tn_a0 <|
  tn_new (q := 7) (ap_len (ap_len (ap_len (ap_len (ap_len (ap_len (ap_len (ap_len (ap_len (ap_len (ap_len (ap_len (ap_len (ap_len (ap_len (ap_len (ap_len (ap_len (ap_len (ap_len (ap_len (ap_len (ap_len (ap_len (ap_len l58))))))))))))))))))))))))) (by rfl) <|
  tn_dup <|
  tn_a0 <|
  tn_gr (b := 79) (ap_get (ap_get (ap_get (ap_get (ap_get (ap_get (ap_get (ap_get (ap_get (ap_get (ap_get (ap_get (ap_get (ap_get (ap_get (ap_get (ap_get (ap_get (ap_get (ap_get (ap_get (ap_get (ap_get (ap_get (ap_get (ap_get g58)))))))))))))))))))))))))) (by decide) (by decide) (by rfl) <|
  tn_a0 <|
  tn_gr (b := 74) (ap_get (ap_get (ap_get (ap_get (ap_get (ap_get (ap_get (ap_get (ap_get (ap_get (ap_get (ap_get (ap_get (ap_get (ap_get (ap_get (ap_get (ap_get (ap_get (ap_get (ap_get (ap_get (ap_get (ap_get (ap_get (ap_get g58)))))))))))))))))))))))))) (by decide) (by decide) (by rfl) <|
  tn_i3 (by decide) (ap_new (ap_len (ap_len (ap_len (ap_len (ap_len (ap_len (ap_len (ap_len (ap_len (ap_len (ap_len (ap_len (ap_len (ap_len (ap_len (ap_len (ap_len (ap_len (ap_len (ap_len (ap_len (ap_len (ap_len (ap_len (ap_len l58)))))))))))))))))))))))))) (by decide) (by decide) (ci_81_84 (ap_len (ap_len (ap_len (ap_len (ap_len (ap_len (ap_len (ap_len (ap_len (ap_len (ap_len (ap_len (ap_len (ap_len (ap_len (ap_len (ap_len (ap_len (ap_len (ap_len (ap_len (ap_len (ap_len (ap_len (ap_len (ap_len l58)))))))))))))))))))))))))) (ap_new (ap_len (ap_len (ap_len (ap_len (ap_len (ap_len (ap_len (ap_len (ap_len (ap_len (ap_len (ap_len (ap_len (ap_len (ap_len (ap_len (ap_len (ap_len (ap_len (ap_len (ap_len (ap_len (ap_len (ap_len (ap_len l58))))))))))))))))))))))))))) <|
  tn_pr (ap_get (ap_get (ap_get (ap_get (ap_get (ap_get (ap_get (ap_get (ap_get (ap_get (ap_get (ap_get (ap_get (ap_get (ap_get (ap_get (ap_get (ap_get (ap_get (ap_get (ap_get (ap_get (ap_get (ap_get (ap_get (ap_get g58)))))))))))))))))))))))))) (by decide) <|
  tn_a0 <|
  tn_new (q := 5) (ap_len (ap_len (ap_len (ap_len (ap_len (ap_len (ap_len (ap_len (ap_len (ap_len (ap_len (ap_len (ap_len (ap_len (ap_len (ap_len (ap_len (ap_len (ap_len (ap_len (ap_len (ap_len (ap_len (ap_len (ap_len (ap_len l58)))))))))))))))))))))))))) (by rfl) <|
  tn_dup <|
  tn_a0 <|
  tn_gr (b := 79) (ap_get (ap_get (ap_get (ap_get (ap_get (ap_get (ap_get (ap_get (ap_get (ap_get (ap_get (ap_get (ap_get (ap_get (ap_get (ap_get (ap_get (ap_get (ap_get (ap_get (ap_get (ap_get (ap_get (ap_get (ap_get (ap_get (ap_get g58))))))))))))))))))))))))))) (by decide) (by decide) (by rfl) <|
  tn_a0 <|
  tn_gr (b := 74) (ap_get (ap_get (ap_get (ap_get (ap_get (ap_get (ap_get (ap_get (ap_get (ap_get (ap_get (ap_get (ap_get (ap_get (ap_get (ap_get (ap_get (ap_get (ap_get (ap_get (ap_get (ap_get (ap_get (ap_get (ap_get (ap_get (ap_get g58))))))))))))))))))))))))))) (by decide) (by decide) (by rfl) <|
  tn_i3 (by decide) (ap_new (ap_len (ap_len (ap_len (ap_len (ap_len (ap_len (ap_len (ap_len (ap_len (ap_len (ap_len (ap_len (ap_len (ap_len (ap_len (ap_len (ap_len (ap_len (ap_len (ap_len (ap_len (ap_len (ap_len (ap_len (ap_len (ap_len l58))))))))))))))))))))))))))) (by decide) (by decide) (ci_11_85 (ap_len (ap_len (ap_len (ap_len (ap_len (ap_len (ap_len (ap_len (ap_len (ap_len (ap_len (ap_len (ap_len (ap_len (ap_len (ap_len (ap_len (ap_len (ap_len (ap_len (ap_len (ap_len (ap_len (ap_len (ap_len (ap_len (ap_len l58))))))))))))))))))))))))))) (ap_new (ap_len (ap_len (ap_len (ap_len (ap_len (ap_len (ap_len (ap_len (ap_len (ap_len (ap_len (ap_len (ap_len (ap_len (ap_len (ap_len (ap_len (ap_len (ap_len (ap_len (ap_len (ap_len (ap_len (ap_len (ap_len (ap_len l58)))))))))))))))))))))))))))) <|
  tn_pr (ap_get (ap_get (ap_get (ap_get (ap_get (ap_get (ap_get (ap_get (ap_get (ap_get (ap_get (ap_get (ap_get (ap_get (ap_get (ap_get (ap_get (ap_get (ap_get (ap_get (ap_get (ap_get (ap_get (ap_get (ap_get (ap_get (ap_get (ap_get g58)))))))))))))))))))))))))))) (by decide) <|
  tn_a0 <|
  tn_new (q := 5) (ap_len (ap_len (ap_len (ap_len (ap_len (ap_len (ap_len (ap_len (ap_len (ap_len (ap_len (ap_len (ap_len (ap_len (ap_len (ap_len (ap_len (ap_len (ap_len (ap_len (ap_len (ap_len (ap_len (ap_len (ap_len (ap_len (ap_len (ap_len l58)))))))))))))))))))))))))))) (by rfl) <|
  tn_dup <|
  tn_i1 (by decide) (ap_new (ap_len (ap_len (ap_len (ap_len (ap_len (ap_len (ap_len (ap_len (ap_len (ap_len (ap_len (ap_len (ap_len (ap_len (ap_len (ap_len (ap_len (ap_len (ap_len (ap_len (ap_len (ap_len (ap_len (ap_len (ap_len (ap_len (ap_len (ap_len l58))))))))))))))))))))))))))))) (by decide) (by decide) (ci_59_87 (ap_len (ap_len (ap_len (ap_len (ap_len (ap_len (ap_len (ap_len (ap_len (ap_len (ap_len (ap_len (ap_len (ap_len (ap_len (ap_len (ap_len (ap_len (ap_len (ap_len (ap_len (ap_len (ap_len (ap_len (ap_len (ap_len (ap_len (ap_len (ap_len l58))))))))))))))))))))))))))))) (ap_new (ap_len (ap_len (ap_len (ap_len (ap_len (ap_len (ap_len (ap_len (ap_len (ap_len (ap_len (ap_len (ap_len (ap_len (ap_len (ap_len (ap_len (ap_len (ap_len (ap_len (ap_len (ap_len (ap_len (ap_len (ap_len (ap_len (ap_len (ap_len l58)))))))))))))))))))))))))))))) <|
  tn_pr (ap_get (ap_get (ap_get (ap_get (ap_get (ap_get (ap_get (ap_get (ap_get (ap_get (ap_get (ap_get (ap_get (ap_get (ap_get (ap_get (ap_get (ap_get (ap_get (ap_get (ap_get (ap_get (ap_get (ap_get (ap_get (ap_get (ap_get (ap_get (ap_get (ap_get (ap_get (ap_get (ap_get g58))))))))))))))))))))))))))))))))) (by decide) <|
  tn_a0 <|
  tn_new (q := 5) (ap_len (ap_len (ap_len (ap_len (ap_len (ap_len (ap_len (ap_len (ap_len (ap_len (ap_len (ap_len (ap_len (ap_len (ap_len (ap_len (ap_len (ap_len (ap_len (ap_len (ap_len (ap_len (ap_len (ap_len (ap_len (ap_len (ap_len (ap_len (ap_len (ap_len (ap_len (ap_len (ap_len l58))))))))))))))))))))))))))))))))) (by rfl) <|
  tn_dup <|
  tn_i1 (by decide) (ap_new (ap_len (ap_len (ap_len (ap_len (ap_len (ap_len (ap_len (ap_len (ap_len (ap_len (ap_len (ap_len (ap_len (ap_len (ap_len (ap_len (ap_len (ap_len (ap_len (ap_len (ap_len (ap_len (ap_len (ap_len (ap_len (ap_len (ap_len (ap_len (ap_len (ap_len (ap_len (ap_len (ap_len l58)))))))))))))))))))))))))))))))))) (by decide) (by decide) (ci_59_92 (ap_len (ap_len (ap_len (ap_len (ap_len (ap_len (ap_len (ap_len (ap_len (ap_len (ap_len (ap_len (ap_len (ap_len (ap_len (ap_len (ap_len (ap_len (ap_len (ap_len (ap_len (ap_len (ap_len (ap_len (ap_len (ap_len (ap_len (ap_len (ap_len (ap_len (ap_len (ap_len (ap_len (ap_len l58)))))))))))))))))))))))))))))))))) (ap_new (ap_len (ap_len (ap_len (ap_len (ap_len (ap_len (ap_len (ap_len (ap_len (ap_len (ap_len (ap_len (ap_len (ap_len (ap_len (ap_len (ap_len (ap_len (ap_len (ap_len (ap_len (ap_len (ap_len (ap_len (ap_len (ap_len (ap_len (ap_len (ap_len (ap_len (ap_len (ap_len (ap_len l58))))))))))))))))))))))))))))))))))) <|
  tn_pr (ap_get (ap_get (ap_get (ap_get (ap_get (ap_get (ap_get (ap_get (ap_get (ap_get (ap_get (ap_get (ap_get (ap_get (ap_get (ap_get (ap_get (ap_get (ap_get (ap_get (ap_get (ap_get (ap_get (ap_get (ap_get (ap_get (ap_get (ap_get (ap_get (ap_get (ap_get (ap_get (ap_get (ap_get (ap_get (ap_get (ap_get (ap_get g58)))))))))))))))))))))))))))))))))))))) (by decide) <|
  tn_a0 <|
  tn_v1 (by decide) (ap_get (ap_get (ap_get (ap_get (ap_get (ap_get (ap_get (ap_get (ap_get (ap_get (ap_get (ap_get (ap_get (ap_get (ap_get (ap_get (ap_get (ap_get (ap_get (ap_get (ap_get (ap_get (ap_get (ap_get (ap_get (ap_get (ap_get (ap_get (ap_get (ap_get (ap_get (ap_get (ap_get (ap_get (ap_get (ap_get (ap_get (ap_get g58)))))))))))))))))))))))))))))))))))))) (by decide) (by decide) (tm_cast ctW (m_114 h)) <|
  tn_rt rfl
