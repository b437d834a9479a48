/-! constructors that call none, by wip/whole/ctor2.py -/
section RP
variable {d m pc len : Nat} {M : ex_M} {L : List ex_R} {lo : ex_Lo} {st : List Value} {S : List ex_Sh} {x : Option Value ⊕ Nat} {w w' : ex_W} {r : List Nat} {k : Int32}
theorem ap_len {y : ex_Sh} (h : S.length = m) : (S ++ [y]).length = m + 1 := by rw [List.length_append, h]; rfl
theorem ap_get {a : Nat} {y z : ex_Sh} (h : S[a]? = some z) : (S ++ [y])[a]? = some z := by
  rw [List.getElem?_append_left (List.getElem?_eq_some_iff.mp h).1]
  exact h
theorem tn_a0 {a : Nat} (g : tt d M L (some (.ref a) :: lo) (.ref a :: st) w x w') : tt d M ((pc, len, .aload_n 0, r, k) :: L) (some (.ref a) :: lo) st w x w' := tt_1 (fun _ => rfl) g
theorem tn_a1 {a : Nat} {v : Option Value} (g : tt d M L (v :: some (.ref a) :: lo) (.ref a :: st) w x w') : tt d M ((pc, len, .aload_n 1, r, k) :: L) (v :: some (.ref a) :: lo) st w x w' := tt_1 (fun _ => rfl) g
theorem tn_a2 {a : Nat} {u v : Option Value} (g : tt d M L (u :: v :: some (.ref a) :: lo) (.ref a :: st) w x w') : tt d M ((pc, len, .aload_n 2, r, k) :: L) (u :: v :: some (.ref a) :: lo) st w x w' := tt_1 (fun _ => rfl) g
theorem tn_si {i : Int} (g : tt d M L lo (.int k :: st) w x w') : tt d M ((pc, len, .sipush i, r, k) :: L) lo st w x w' := tt_1 (fun _ => rfl) g
theorem tn_bi {i : Int} (g : tt d M L lo (.int k :: st) w x w') : tt d M ((pc, len, .bipush i, r, k) :: L) lo st w x w' := tt_1 (fun _ => rfl) g
theorem tn_ic {i} (g : tt d M L lo (.int k :: st) w x w') : tt d M ((pc, len, .iconst i, r, k) :: L) lo st w x w' := tt_1 (fun _ => rfl) g
theorem tn_oi {i a : Nat} (g : tt d M L lo [] w x w') : tt d M ((pc, len, .invokespecial i, [6], k) :: L) lo [.ref a] w x w' := tt_1 (fun _ => rfl) g
theorem tn_gs {i y z u : Nat} (g : tt d M L lo (.ref y :: st) w x w') : tt d M ((pc, len, .getstatic i, [0, y, z, u, 0], k) :: L) lo st w x w' := tt_1 (fun _ => rfl) g
theorem tn_rt (hM : M.2.2.2.1 = none) : tt d M ((pc, len, .return_, r, k) :: L) lo [] w (.inl none) w := ⟨1, fun n => by
  show (if M.2.2.2.1 = none then some (Sum.inl none, w) else none) = _
  rw [if_pos hM]⟩
end RP
section CI
variable {d c s : Nat} {S : List ex_Sh} {I : Nat → Nat → Int32} {J : Nat → Nat → Int64} {R : Nat → Nat → Option Nat}
theorem ci_69_60 (h : S.length = 61) (g : S[60]? = some (.inl 6)) : tm d 69 [.ref 60] ((S, c, s), I, J, R) (.inl none) (((S ++ [.inr (.byte, 500)]), c + 1, s + 500), (up (up (up (up (up (up (up (nw I 61) 60 1 (0)) 60 2 (0)) 60 3 (0)) 60 4 (0)) 60 5 (0)) 60 7 (0)) 60 8 (0)), (nw J 61), (up (up R 60 0 (some 61)) 60 6 (some 17))) :=
  tm_of me_69 rfl (by decide) <| tn_a0 <|
  tn_oi <|
  tn_a0 <|
  tn_si <|
  tn_arr (q := 500) h (by decide) <|
  tn_pr (ap_get g) (by decide) <|
  tn_a0 <|
  tn_ic <|
  tn_pi (ap_get g) (by decide) <|
  tn_a0 <|
  tn_ic <|
  tn_pi (ap_get g) (by decide) <|
  tn_a0 <|
  tn_ic <|
  tn_pi (ap_get g) (by decide) <|
  tn_a0 <|
  tn_ic <|
  tn_pi (ap_get g) (by decide) <|
  tn_a0 <|
  tn_ic <|
  tn_pi (ap_get g) (by decide) <|
  tn_a0 <|
  tn_gs <|
  tn_pr (ap_get g) (by decide) <|
  tn_a0 <|
  tn_ic <|
  tn_pi (ap_get g) (by decide) <|
  tn_a0 <|
  tn_ic <|
  tn_pi (ap_get g) (by decide) <|
  tn_rt rfl
theorem ci_24_67 (h : S.length = 68) (g : S[67]? = some (.inl 3)) : tm d 24 [.ref 67, .ref 60] ((S, c, s), I, J, R) (.inl none) ((((((((S ++ [.inr (.int, 500)]) ++ [.inr (.int, 8)]) ++ [.inr (.int, 100)]) ++ [.inr (.boolean, 7)]) ++ [.inr (.int, 6)]) ++ [.inr (.int, 50)]), c + 1 + 1 + 1 + 1 + 1 + 1, s + 500 + 8 + 100 + 7 + 6 + 50), (up (up (up (up (up (up (up (nw (nw (nw (nw (nw (nw I 68) 69) 70) 71) 72) 73) 67 7 (0)) 67 8 (0)) 67 9 (0)) 67 10 (0)) 67 11 (1)) 67 12 (1)) 67 13 (0)), (nw (nw (nw (nw (nw (nw J 68) 69) 70) 71) 72) 73), (up (up (up (up (up (up (up R 67 1 (some 68)) 67 2 (some 69)) 67 3 (some 70)) 67 4 (some 71)) 67 5 (some 72)) 67 6 (some 73)) 67 0 (some 60))) :=
  tm_of me_24 rfl (by decide) <| tn_a0 <|
  tn_oi <|
  tn_a0 <|
  tn_si <|
  tn_arr (q := 500) h (by decide) <|
  tn_pr (ap_get g) (by decide) <|
  tn_a0 <|
  tn_bi <|
  tn_arr (q := 8) (ap_len h) (by decide) <|
  tn_pr (ap_get (ap_get g)) (by decide) <|
  tn_a0 <|
  tn_bi <|
  tn_arr (q := 100) (ap_len (ap_len h)) (by decide) <|
  tn_pr (ap_get (ap_get (ap_get g))) (by decide) <|
  tn_a0 <|
  tn_bi <|
  tn_arr (q := 7) (ap_len (ap_len (ap_len h))) (by decide) <|
  tn_pr (ap_get (ap_get (ap_get (ap_get g)))) (by decide) <|
  tn_a0 <|
  tn_bi <|
  tn_arr (q := 6) (ap_len (ap_len (ap_len (ap_len h)))) (by decide) <|
  tn_pr (ap_get (ap_get (ap_get (ap_get (ap_get g))))) (by decide) <|
  tn_a0 <|
  tn_bi <|
  tn_arr (q := 50) (ap_len (ap_len (ap_len (ap_len (ap_len h))))) (by decide) <|
  tn_pr (ap_get (ap_get (ap_get (ap_get (ap_get (ap_get g)))))) (by decide) <|
  tn_a0 <|
  tn_ic <|
  tn_pi (ap_get (ap_get (ap_get (ap_get (ap_get (ap_get g)))))) (by decide) <|
  tn_a0 <|
  tn_ic <|
  tn_pi (ap_get (ap_get (ap_get (ap_get (ap_get (ap_get g)))))) (by decide) <|
  tn_a0 <|
  tn_ic <|
  tn_pi (ap_get (ap_get (ap_get (ap_get (ap_get (ap_get g)))))) (by decide) <|
  tn_a0 <|
  tn_ic <|
  tn_pi (ap_get (ap_get (ap_get (ap_get (ap_get (ap_get g)))))) (by decide) <|
  tn_a0 <|
  tn_ic <|
  tn_pb (v := 1) (ap_get (ap_get (ap_get (ap_get (ap_get (ap_get g)))))) (by decide) (by decide) <|
  tn_a0 <|
  tn_ic <|
  tn_pb (v := 1) (ap_get (ap_get (ap_get (ap_get (ap_get (ap_get g)))))) (by decide) (by decide) <|
  tn_a0 <|
  tn_ic <|
  tn_pb (v := 0) (ap_get (ap_get (ap_get (ap_get (ap_get (ap_get g)))))) (by decide) (by decide) <|
  tn_a0 <|
  tn_a1 <|
  tn_pr (ap_get (ap_get (ap_get (ap_get (ap_get (ap_get g)))))) (by decide) <|
  tn_rt rfl
theorem ci_0_74 (h : S.length = 75) (g : S[74]? = some (.inl 0)) : tm d 0 [.ref 74] ((S, c, s), I, J, R) (.inl none) ((((((S ++ [.inr (.int, 180)]) ++ [.inr (.int, 180)]) ++ [.inr (.int, 18)]) ++ [.inr (.int, 6)]), c + 1 + 1 + 1 + 1, s + 180 + 180 + 18 + 6), (up (up (up (up (nw (nw (nw (nw I 75) 76) 77) 78) 74 4 (0)) 74 5 (0)) 74 6 (0)) 74 7 (0)), (nw (nw (nw (nw J 75) 76) 77) 78), (up (up (up (up R 74 0 (some 75)) 74 1 (some 76)) 74 2 (some 77)) 74 3 (some 78))) :=
  tm_of me_0 rfl (by decide) <| tn_a0 <|
  tn_oi <|
  tn_a0 <|
  tn_si <|
  tn_arr (q := 180) h (by decide) <|
  tn_pr (ap_get g) (by decide) <|
  tn_a0 <|
  tn_si <|
  tn_arr (q := 180) (ap_len h) (by decide) <|
  tn_pr (ap_get (ap_get g)) (by decide) <|
  tn_a0 <|
  tn_bi <|
  tn_arr (q := 18) (ap_len (ap_len h)) (by decide) <|
  tn_pr (ap_get (ap_get (ap_get g))) (by decide) <|
  tn_a0 <|
  tn_bi <|
  tn_arr (q := 6) (ap_len (ap_len (ap_len h))) (by decide) <|
  tn_pr (ap_get (ap_get (ap_get (ap_get g)))) (by decide) <|
  tn_a0 <|
  tn_ic <|
  tn_pi (ap_get (ap_get (ap_get (ap_get g)))) (by decide) <|
  tn_a0 <|
  tn_ic <|
  tn_pi (ap_get (ap_get (ap_get (ap_get g)))) (by decide) <|
  tn_a0 <|
  tn_ic <|
  tn_pi (ap_get (ap_get (ap_get (ap_get g)))) (by decide) <|
  tn_a0 <|
  tn_ic <|
  tn_pi (ap_get (ap_get (ap_get (ap_get g)))) (by decide) <|
  tn_rt rfl
theorem ci_46_79 (h : S.length = 80) (g : S[79]? = some (.inl 4)) : tm d 46 [.ref 79] ((S, c, s), I, J, R) (.inl none) ((((((S ++ [.inr (.int, 8)]) ++ [.inr (.int, 8)]) ++ [.inr (.int, 48)]) ++ [.inr (.int, 480)]), c + 1 + 1 + 1 + 1, s + 8 + 8 + 48 + 480), (up (up (up (up (up (up (nw (nw (nw (nw I 80) 81) 82) 83) 79 4 (0)) 79 5 (0)) 79 6 (0)) 79 7 (0)) 79 8 (0)) 79 9 (1)), (nw (nw (nw (nw J 80) 81) 82) 83), (up (up (up (up R 79 0 (some 80)) 79 1 (some 81)) 79 2 (some 82)) 79 3 (some 83))) :=
  tm_of me_46 rfl (by decide) <| tn_a0 <|
  tn_oi <|
  tn_a0 <|
  tn_bi <|
  tn_arr (q := 8) h (by decide) <|
  tn_pr (ap_get g) (by decide) <|
  tn_a0 <|
  tn_bi <|
  tn_arr (q := 8) (ap_len h) (by decide) <|
  tn_pr (ap_get (ap_get g)) (by decide) <|
  tn_a0 <|
  tn_bi <|
  tn_arr (q := 48) (ap_len (ap_len h)) (by decide) <|
  tn_pr (ap_get (ap_get (ap_get g))) (by decide) <|
  tn_a0 <|
  tn_si <|
  tn_arr (q := 480) (ap_len (ap_len (ap_len h))) (by decide) <|
  tn_pr (ap_get (ap_get (ap_get (ap_get g)))) (by decide) <|
  tn_a0 <|
  tn_ic <|
  tn_pi (ap_get (ap_get (ap_get (ap_get g)))) (by decide) <|
  tn_a0 <|
  tn_ic <|
  tn_pi (ap_get (ap_get (ap_get (ap_get g)))) (by decide) <|
  tn_a0 <|
  tn_ic <|
  tn_pi (ap_get (ap_get (ap_get (ap_get g)))) (by decide) <|
  tn_a0 <|
  tn_ic <|
  tn_pi (ap_get (ap_get (ap_get (ap_get g)))) (by decide) <|
  tn_a0 <|
  tn_ic <|
  tn_pi (ap_get (ap_get (ap_get (ap_get g)))) (by decide) <|
  tn_a0 <|
  tn_ic <|
  tn_pi (ap_get (ap_get (ap_get (ap_get g)))) (by decide) <|
  tn_rt rfl
theorem ci_81_84 (h : S.length = 85) (g : S[84]? = some (.inl 7)) : tm d 81 [.ref 84, .ref 79, .ref 74] ((S, c, s), I, J, R) (.inl none) ((S, c, s), (up (up (up (up (up I 84 2 (0)) 84 3 (0)) 84 4 (0)) 84 5 (0)) 84 6 (0)), J, (up (up R 84 0 (some 79)) 84 1 (some 74))) :=
  tm_of me_81 rfl (by decide) <| tn_a0 <|
  tn_oi <|
  tn_a0 <|
  tn_ic <|
  tn_pi g (by decide) <|
  tn_a0 <|
  tn_ic <|
  tn_pi g (by decide) <|
  tn_a0 <|
  tn_ic <|
  tn_pi g (by decide) <|
  tn_a0 <|
  tn_ic <|
  tn_pi g (by decide) <|
  tn_a0 <|
  tn_ic <|
  tn_pi g (by decide) <|
  tn_a0 <|
  tn_a1 <|
  tn_pr g (by decide) <|
  tn_a0 <|
  tn_a2 <|
  tn_pr g (by decide) <|
  tn_rt rfl
theorem ci_11_85 (h : S.length = 86) (g : S[85]? = some (.inl 1)) : tm d 11 [.ref 85, .ref 79, .ref 74] ((S, c, s), I, J, R) (.inl none) (((S ++ [.inr (.int, 420)]), c + 1, s + 420), (up (up (nw I 86) 85 3 (0)) 85 4 (0)), (nw J 86), (up (up (up R 85 2 (some 86)) 85 0 (some 79)) 85 1 (some 74))) :=
  tm_of me_11 rfl (by decide) <| tn_a0 <|
  tn_oi <|
  tn_a0 <|
  tn_si <|
  tn_arr (q := 420) h (by decide) <|
  tn_pr (ap_get g) (by decide) <|
  tn_a0 <|
  tn_ic <|
  tn_pi (ap_get g) (by decide) <|
  tn_a0 <|
  tn_ic <|
  tn_pi (ap_get g) (by decide) <|
  tn_a0 <|
  tn_a1 <|
  tn_pr (ap_get g) (by decide) <|
  tn_a0 <|
  tn_a2 <|
  tn_pr (ap_get g) (by decide) <|
  tn_rt rfl
theorem ci_59_87 (h : S.length = 88) (g : S[87]? = some (.inl 5)) : tm d 59 [.ref 87] ((S, c, s), I, J, R) (.inl none) ((((((S ++ [.inr (.int, 60)]) ++ [.inr (.int, 60)]) ++ [.inr (.int, 60)]) ++ [.inr (.int, 20)]), c + 1 + 1 + 1 + 1, s + 60 + 60 + 60 + 20), (up (nw (nw (nw (nw I 88) 89) 90) 91) 87 4 (0)), (nw (nw (nw (nw J 88) 89) 90) 91), (up (up (up (up R 87 0 (some 88)) 87 1 (some 89)) 87 2 (some 90)) 87 3 (some 91))) :=
  tm_of me_59 rfl (by decide) <| tn_a0 <|
  tn_oi <|
  tn_a0 <|
  tn_bi <|
  tn_arr (q := 60) h (by decide) <|
  tn_pr (ap_get g) (by decide) <|
  tn_a0 <|
  tn_bi <|
  tn_arr (q := 60) (ap_len h) (by decide) <|
  tn_pr (ap_get (ap_get g)) (by decide) <|
  tn_a0 <|
  tn_bi <|
  tn_arr (q := 60) (ap_len (ap_len h)) (by decide) <|
  tn_pr (ap_get (ap_get (ap_get g))) (by decide) <|
  tn_a0 <|
  tn_bi <|
  tn_arr (q := 20) (ap_len (ap_len (ap_len h))) (by decide) <|
  tn_pr (ap_get (ap_get (ap_get (ap_get g)))) (by decide) <|
  tn_a0 <|
  tn_ic <|
  tn_pi (ap_get (ap_get (ap_get (ap_get g)))) (by decide) <|
  tn_rt rfl
theorem ci_59_92 (h : S.length = 93) (g : S[92]? = some (.inl 5)) : tm d 59 [.ref 92] ((S, c, s), I, J, R) (.inl none) ((((((S ++ [.inr (.int, 60)]) ++ [.inr (.int, 60)]) ++ [.inr (.int, 60)]) ++ [.inr (.int, 20)]), c + 1 + 1 + 1 + 1, s + 60 + 60 + 60 + 20), (up (nw (nw (nw (nw I 93) 94) 95) 96) 92 4 (0)), (nw (nw (nw (nw J 93) 94) 95) 96), (up (up (up (up R 92 0 (some 93)) 92 1 (some 94)) 92 2 (some 95)) 92 3 (some 96))) :=
  tm_of me_59 rfl (by decide) <| tn_a0 <|
  tn_oi <|
  tn_a0 <|
  tn_bi <|
  tn_arr (q := 60) h (by decide) <|
  tn_pr (ap_get g) (by decide) <|
  tn_a0 <|
  tn_bi <|
  tn_arr (q := 60) (ap_len h) (by decide) <|
  tn_pr (ap_get (ap_get g)) (by decide) <|
  tn_a0 <|
  tn_bi <|
  tn_arr (q := 60) (ap_len (ap_len h)) (by decide) <|
  tn_pr (ap_get (ap_get (ap_get g))) (by decide) <|
  tn_a0 <|
  tn_bi <|
  tn_arr (q := 20) (ap_len (ap_len (ap_len h))) (by decide) <|
  tn_pr (ap_get (ap_get (ap_get (ap_get g)))) (by decide) <|
  tn_a0 <|
  tn_ic <|
  tn_pi (ap_get (ap_get (ap_get (ap_get g)))) (by decide) <|
  tn_rt rfl
end CI
