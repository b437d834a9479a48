/-! functions -/
/- 45 -/
def lb_45_2 (s0 : Int32) : Option Int32 :=
  (some s0)
def f_45 (x0 : Int32) : Option Int32 :=
  (if x0 = 0 then (lb_45_2  (0 : Int32) ) else (lb_45_2  (1 : Int32) ))
theorem tl_45_2 {d : Nat} {κ : Nat × Option Nat} {cs : Nat × Nat} {I : Nat → Nat → Int32} {J : Nat → Nat → Int64} {W : Nat} (s0 : Int32) (r : Int32) (h : lb_45_2  s0  = some r) : tt d me_45 bk_45_2 [none] [.int s0] (cw κ cs I J W) (.inl (some (.int r))) (cw κ cs I J W) :=
  tt_R 1 (fun r => (.inl (some (.int r)))) (fun r => (cw κ cs I J W)) h (fun _ => rfl)
theorem m_45 {d : Nat} {κ : Nat × Option Nat} {cs : Nat × Nat} {I : Nat → Nat → Int32} {J : Nat → Nat → Int64} {W : Nat} {x0 : Int32} {r : Int32} (h : f_45 x0  = some r) : tm d 45 [.int x0] (cw κ cs I J W) (.inl (some (.int r))) (cw κ cs I J W) :=
  tm_of me_45 rfl (Nat.le_of_ble_eq_true rfl) (
  tt_I (L1 := bk_45_1) (L2 := (bk_45_0.drop 2)) 2 [some (.int x0)] [] (cw κ cs I J W) h (fun _ => rfl) (fun h =>
  tt_S (L1 := bk_45_2) 1 [some (.int x0)] [.int (0 : Int32)] (cw κ cs I J W) (fun _ => rfl) (tt_F [none] trivial (tl_45_2  (0 : Int32)  _ h))) (fun h =>
  tt_S (L1 := bk_45_2) 2 [some (.int x0)] [.int (1 : Int32)] (cw κ cs I J W) (fun _ => rfl) (tt_F [none] trivial (tl_45_2  (1 : Int32)  _ h))))
/- 44 -/
def lb_44_13 (s0 : Int32) : Option Int32 :=
  ((f_45 s0 ).bind fun q1 => (some q1))
def lb_44_10 (s0 : Int32) : Option Int32 :=
  ((f_45 s0 ).bind fun q2 => (some q2))
def lb_44_19 (s0 : Int32) : Option Int32 :=
  (some s0)
def lb_44_7 (s0 : Int32) : Option Int32 :=
  ((f_45 s0 ).bind fun q3 => (some q3))
def lb_44_6 : Option Int32 :=
  (lb_44_7  (0 : Int32) )
def lb_44_4 (s0 : Int32) : Option Int32 :=
  ((f_45 s0 ).bind fun q4 => (some q4))
def lb_44_2 : Option Int32 :=
  (lb_44_4  (1 : Int32) )
def f_44 (x0 : Int32) (x1 : Int32) (x2 : Int32) : Option Int32 :=
  (if x0 = ((-14) : Int32) then (some (x1 * x2)) else (if x0 = ((-13) : Int32) then (some (x1 - x2)) else (if x0 = ((-12) : Int32) then (some (x1 + x2)) else (if x0 = ((-11) : Int32) then (if x1 = x2 then (lb_44_13  (1 : Int32) ) else (lb_44_13  (0 : Int32) )) else (if x0 = ((-10) : Int32) then (if x1 < x2 then (lb_44_10  (1 : Int32) ) else (lb_44_10  (0 : Int32) )) else (if x0 = ((-9) : Int32) then (if x2 = 0 then (lb_44_19  (0 : Int32) ) else (if x2 = 0 then none else (lb_44_19  (x1 / x2) ))) else (if x0 = ((-8) : Int32) then (if x1 = 0 then (lb_44_6   ) else (if x2 = 0 then (lb_44_6   ) else (lb_44_7  (1 : Int32) ))) else (if x0 = ((-7) : Int32) then (if x1 = 0 then (if x2 = 0 then (lb_44_4  (0 : Int32) ) else (lb_44_2   )) else (lb_44_2   )) else (if x2 = 0 then (lb_44_19  (0 : Int32) ) else (if x2 = 0 then none else (lb_44_19  (x1 / x2) )))))))))))
theorem tl_44_13 {d : Nat} {κ : Nat × Option Nat} {cs : Nat × Nat} {I : Nat → Nat → Int32} {J : Nat → Nat → Int64} {W : Nat} (s0 : Int32) (r : Int32) (h : lb_44_13  s0  = some r) : tt (d + 1) me_44 bk_44_13 [none, none, none] [.int s0] (cw κ cs I J W) (.inl (some (.int r))) (cw κ cs I J W) :=
  tt_C (L1 := (bk_44_13.drop 1)) 1 [none, none, none] [] (cw κ cs I J W) h (fun _ => rfl) (fun _ e => m_45 (d := d) e) fun q1 h =>
  tt_R 1 (fun r => (.inl (some (.int r)))) (fun r => (cw κ cs I J W)) h (fun _ => rfl)
theorem tl_44_10 {d : Nat} {κ : Nat × Option Nat} {cs : Nat × Nat} {I : Nat → Nat → Int32} {J : Nat → Nat → Int64} {W : Nat} (s0 : Int32) (r : Int32) (h : lb_44_10  s0  = some r) : tt (d + 1) me_44 bk_44_10 [none, none, none] [.int s0] (cw κ cs I J W) (.inl (some (.int r))) (cw κ cs I J W) :=
  tt_C (L1 := (bk_44_10.drop 1)) 1 [none, none, none] [] (cw κ cs I J W) h (fun _ => rfl) (fun _ e => m_45 (d := d) e) fun q2 h =>
  tt_R 1 (fun r => (.inl (some (.int r)))) (fun r => (cw κ cs I J W)) h (fun _ => rfl)
theorem tl_44_19 {d : Nat} {κ : Nat × Option Nat} {cs : Nat × Nat} {I : Nat → Nat → Int32} {J : Nat → Nat → Int64} {W : Nat} (s0 : Int32) (r : Int32) (h : lb_44_19  s0  = some r) : tt (d + 1) me_44 bk_44_19 [none, none, none] [.int s0] (cw κ cs I J W) (.inl (some (.int r))) (cw κ cs I J W) :=
  tt_R 1 (fun r => (.inl (some (.int r)))) (fun r => (cw κ cs I J W)) h (fun _ => rfl)
theorem tl_44_7 {d : Nat} {κ : Nat × Option Nat} {cs : Nat × Nat} {I : Nat → Nat → Int32} {J : Nat → Nat → Int64} {W : Nat} (s0 : Int32) (r : Int32) (h : lb_44_7  s0  = some r) : tt (d + 1) me_44 bk_44_7 [none, none, none] [.int s0] (cw κ cs I J W) (.inl (some (.int r))) (cw κ cs I J W) :=
  tt_C (L1 := (bk_44_7.drop 1)) 1 [none, none, none] [] (cw κ cs I J W) h (fun _ => rfl) (fun _ e => m_45 (d := d) e) fun q3 h =>
  tt_R 1 (fun r => (.inl (some (.int r)))) (fun r => (cw κ cs I J W)) h (fun _ => rfl)
theorem tl_44_6 {d : Nat} {κ : Nat × Option Nat} {cs : Nat × Nat} {I : Nat → Nat → Int32} {J : Nat → Nat → Int64} {W : Nat} (r : Int32) (h : lb_44_6    = some r) : tt (d + 1) me_44 bk_44_6 [none, none, none] [] (cw κ cs I J W) (.inl (some (.int r))) (cw κ cs I J W) :=
  tt_S (L1 := bk_44_7) 1 [none, none, none] [.int (0 : Int32)] (cw κ cs I J W) (fun _ => rfl) (tt_F [none, none, none] trivial (tl_44_7  (0 : Int32)  _ h))
theorem tl_44_4 {d : Nat} {κ : Nat × Option Nat} {cs : Nat × Nat} {I : Nat → Nat → Int32} {J : Nat → Nat → Int64} {W : Nat} (s0 : Int32) (r : Int32) (h : lb_44_4  s0  = some r) : tt (d + 1) me_44 bk_44_4 [none, none, none] [.int s0] (cw κ cs I J W) (.inl (some (.int r))) (cw κ cs I J W) :=
  tt_C (L1 := (bk_44_4.drop 1)) 1 [none, none, none] [] (cw κ cs I J W) h (fun _ => rfl) (fun _ e => m_45 (d := d) e) fun q4 h =>
  tt_R 1 (fun r => (.inl (some (.int r)))) (fun r => (cw κ cs I J W)) h (fun _ => rfl)
theorem tl_44_2 {d : Nat} {κ : Nat × Option Nat} {cs : Nat × Nat} {I : Nat → Nat → Int32} {J : Nat → Nat → Int64} {W : Nat} (r : Int32) (h : lb_44_2    = some r) : tt (d + 1) me_44 bk_44_2 [none, none, none] [] (cw κ cs I J W) (.inl (some (.int r))) (cw κ cs I J W) :=
  tt_S (L1 := bk_44_4) 2 [none, none, none] [.int (1 : Int32)] (cw κ cs I J W) (fun _ => rfl) (tt_F [none, none, none] trivial (tl_44_4  (1 : Int32)  _ h))
theorem m_44 {d : Nat} {κ : Nat × Option Nat} {cs : Nat × Nat} {I : Nat → Nat → Int32} {J : Nat → Nat → Int64} {W : Nat} {x0 : Int32} {x1 : Int32} {x2 : Int32} {r : Int32} (h : f_44 x0 x1 x2  = some r) : tm (d + 1) 44 [.int x0, .int x1, .int x2] (cw κ cs I J W) (.inl (some (.int r))) (cw κ cs I J W) :=
  tm_of me_44 rfl (Nat.le_of_ble_eq_true rfl) (
  tt_S (L1 := (bk_44_0.drop 1)) 1 [some (.int x0), some (.int x1), some (.int x2)] [.int x0] (cw κ cs I J W) (fun _ => rfl) (
  tt_T (L1 := bk_44_16) ((-14) : Int32) h (fun _ => rfl) (fun h =>
  tt_R 4 (fun r => (.inl (some (.int r)))) (fun r => (cw κ cs I J W)) h (fun _ => rfl)) (fun e0 h =>
  tt_T (L1 := bk_44_15) ((-13) : Int32) h (fun _ => rfl) (fun h =>
  tt_R 4 (fun r => (.inl (some (.int r)))) (fun r => (cw κ cs I J W)) h (fun _ => rfl)) (fun e1 h =>
  tt_T (L1 := bk_44_14) ((-12) : Int32) h (fun _ => rfl) (fun h =>
  tt_R 4 (fun r => (.inl (some (.int r)))) (fun r => (cw κ cs I J W)) h (fun _ => rfl)) (fun e2 h =>
  tt_T (L1 := bk_44_11) ((-11) : Int32) h (fun _ => rfl) (fun h =>
  tt_I (L1 := (bk_44_11.drop 3)) (L2 := bk_44_12) 3 [some (.int x0), some (.int x1), some (.int x2)] [] (cw κ cs I J W) h (fun _ => rfl) (fun h =>
  tt_S (L1 := bk_44_13) 2 [some (.int x0), some (.int x1), some (.int x2)] [.int (1 : Int32)] (cw κ cs I J W) (fun _ => rfl) (tt_F [none, none, none] trivial (tl_44_13  (1 : Int32)  _ h))) (fun h =>
  tt_S (L1 := bk_44_13) 1 [some (.int x0), some (.int x1), some (.int x2)] [.int (0 : Int32)] (cw κ cs I J W) (fun _ => rfl) (tt_F [none, none, none] trivial (tl_44_13  (0 : Int32)  _ h)))) (fun e3 h =>
  tt_T (L1 := bk_44_8) ((-10) : Int32) h (fun _ => rfl) (fun h =>
  tt_I (L1 := (bk_44_8.drop 3)) (L2 := bk_44_9) 3 [some (.int x0), some (.int x1), some (.int x2)] [] (cw κ cs I J W) h (fun _ => rfl) (fun h =>
  tt_S (L1 := bk_44_10) 2 [some (.int x0), some (.int x1), some (.int x2)] [.int (1 : Int32)] (cw κ cs I J W) (fun _ => rfl) (tt_F [none, none, none] trivial (tl_44_10  (1 : Int32)  _ h))) (fun h =>
  tt_S (L1 := bk_44_10) 1 [some (.int x0), some (.int x1), some (.int x2)] [.int (0 : Int32)] (cw κ cs I J W) (fun _ => rfl) (tt_F [none, none, none] trivial (tl_44_10  (0 : Int32)  _ h)))) (fun e4 h =>
  tt_T (L1 := bk_44_17) ((-9) : Int32) h (fun _ => rfl) (fun h =>
  tt_I (L1 := bk_44_18) (L2 := (bk_44_17.drop 2)) 2 [some (.int x0), some (.int x1), some (.int x2)] [] (cw κ cs I J W) h (fun _ => rfl) (fun h =>
  tt_S (L1 := bk_44_19) 1 [some (.int x0), some (.int x1), some (.int x2)] [.int (0 : Int32)] (cw κ cs I J W) (fun _ => rfl) (tt_F [none, none, none] trivial (tl_44_19  (0 : Int32)  _ h))) (fun h =>
  tt_S (L1 := (bk_44_17.drop 4)) 2 [some (.int x0), some (.int x1), some (.int x2)] [.int x2, .int x1] (cw κ cs I J W) (fun _ => rfl) (
  tt_Di h fun h =>
  tt_S (L1 := bk_44_19) 1 [some (.int x0), some (.int x1), some (.int x2)] [.int (x1 / x2)] (cw κ cs I J W) (fun _ => rfl) (tt_F [none, none, none] trivial (tl_44_19  (x1 / x2)  _ h))))) (fun e5 h =>
  tt_T (L1 := bk_44_5) ((-8) : Int32) h (fun _ => rfl) (fun h =>
  tt_I (L1 := bk_44_6) (L2 := (bk_44_5.drop 2)) 2 [some (.int x0), some (.int x1), some (.int x2)] [] (cw κ cs I J W) h (fun _ => rfl) (fun h =>
  tt_F [none, none, none] trivial (tl_44_6    _ h)) (fun h =>
  tt_I (L1 := bk_44_6) (L2 := (bk_44_5.drop 4)) 2 [some (.int x0), some (.int x1), some (.int x2)] [] (cw κ cs I J W) h (fun _ => rfl) (fun h =>
  tt_F [none, none, none] trivial (tl_44_6    _ h)) (fun h =>
  tt_S (L1 := bk_44_7) 2 [some (.int x0), some (.int x1), some (.int x2)] [.int (1 : Int32)] (cw κ cs I J W) (fun _ => rfl) (tt_F [none, none, none] trivial (tl_44_7  (1 : Int32)  _ h))))) (fun e6 h =>
  tt_T (L1 := bk_44_1) ((-7) : Int32) h (fun _ => rfl) (fun h =>
  tt_I (L1 := (bk_44_1.drop 2)) (L2 := bk_44_2) 2 [some (.int x0), some (.int x1), some (.int x2)] [] (cw κ cs I J W) h (fun _ => rfl) (fun h =>
  tt_I (L1 := bk_44_3) (L2 := bk_44_2) 2 [some (.int x0), some (.int x1), some (.int x2)] [] (cw κ cs I J W) h (fun _ => rfl) (fun h =>
  tt_S (L1 := bk_44_4) 1 [some (.int x0), some (.int x1), some (.int x2)] [.int (0 : Int32)] (cw κ cs I J W) (fun _ => rfl) (tt_F [none, none, none] trivial (tl_44_4  (0 : Int32)  _ h))) (fun h =>
  tt_F [none, none, none] trivial (tl_44_2    _ h))) (fun h =>
  tt_F [none, none, none] trivial (tl_44_2    _ h))) (fun e7 h =>
  tt_T0 (by have e0 := nev e0 (show (((-14) : Int32)).toInt = -14 from rfl); have e1 := nev e1 (show (((-13) : Int32)).toInt = -13 from rfl); have e2 := nev e2 (show (((-12) : Int32)).toInt = -12 from rfl); have e3 := nev e3 (show (((-11) : Int32)).toInt = -11 from rfl); have e4 := nev e4 (show (((-10) : Int32)).toInt = -10 from rfl); have e5 := nev e5 (show (((-9) : Int32)).toInt = -9 from rfl); have e6 := nev e6 (show (((-8) : Int32)).toInt = -8 from rfl); have e7 := nev e7 (show (((-7) : Int32)).toInt = -7 from rfl); omega) (
  tt_I (L1 := bk_44_18) (L2 := (bk_44_17.drop 2)) 2 [some (.int x0), some (.int x1), some (.int x2)] [] (cw κ cs I J W) h (fun _ => rfl) (fun h =>
  tt_S (L1 := bk_44_19) 1 [some (.int x0), some (.int x1), some (.int x2)] [.int (0 : Int32)] (cw κ cs I J W) (fun _ => rfl) (tt_F [none, none, none] trivial (tl_44_19  (0 : Int32)  _ h))) (fun h =>
  tt_S (L1 := (bk_44_17.drop 4)) 2 [some (.int x0), some (.int x1), some (.int x2)] [.int x2, .int x1] (cw κ cs I J W) (fun _ => rfl) (
  tt_Di h fun h =>
  tt_S (L1 := bk_44_19) 1 [some (.int x0), some (.int x1), some (.int x2)] [.int (x1 / x2)] (cw κ cs I J W) (fun _ => rfl) (tt_F [none, none, none] trivial (tl_44_19  (x1 / x2)  _ h)))))))))))))))
/- 43 -/
def lb_43_9 (c3 : Int32 → Int32 → Int32 → (Nat → Nat → Int32) → Option (Int32 × (Nat → Nat → Int32))) (x1 : Int32) (x2 : Int32) (x3 : Int32) (I : (Nat → Nat → Int32)) : Option (Int32 × (Nat → Nat → Int32)) :=
  (c3 x1 x2 (x3 + (1 : Int32)) I)
def lb_43_7 (c3 : Int32 → Int32 → Int32 → (Nat → Nat → Int32) → Option (Int32 × (Nat → Nat → Int32))) (x1 : Int32) (x2 : Int32) (x3 : Int32) (s1 : Int32) (s2 : Int32) (I : (Nat → Nat → Int32)) : Option (Int32 × (Nat → Nat → Int32)) :=
  ((f_45 s2 ).bind fun q3 => (let I4 := putf I 73 50 s1 q3
  (lb_43_9 c3 x1 x2 x3 I4)))
def bd_43_3 (c3 : Int32 → Int32 → Int32 → (Nat → Nat → Int32) → Option (Int32 × (Nat → Nat → Int32))) (x1 : Int32) (x2 : Int32) (x3 : Int32) (I : (Nat → Nat → Int32)) : Option (Int32 × (Nat → Nat → Int32)) :=
  (if x3 < (atf (I 69) 8 x1) then (if (atf (I 68) 500 x3) < 0 then (if (atf (I 68) 500 x3) < ((-6) : Int32) then (if (atf (I 68) 500 x3) = ((-9) : Int32) then (if (atf (I 73) 50 (x2 - (1 : Int32))) = 0 then (lb_43_7 c3 x1 x2 x3 (x2 - (1 : Int32)) (1 : Int32) I) else (lb_43_7 c3 x1 x2 x3 (x2 - (1 : Int32)) (0 : Int32) I)) else ((f_44 (atf (I 68) 500 x3) (atf (I 73) 50 ((x2 + ((-1) : Int32)) - (1 : Int32))) (atf (I 73) 50 (x2 + ((-1) : Int32))) ).bind fun q1 => (let I2 := putf I 73 50 ((x2 + ((-1) : Int32)) - (1 : Int32)) q1
  (lb_43_9 c3 x1 (x2 + ((-1) : Int32)) x3 I2)))) else (let I5 := putf I 73 50 x2 (atf (I 72) 6 (((-1) : Int32) - (atf (I 68) 500 x3)))
  (lb_43_9 c3 x1 (x2 + (1 : Int32)) x3 I5))) else (let I6 := putf I 73 50 x2 (atf (I 68) 500 x3)
  (lb_43_9 c3 x1 (x2 + (1 : Int32)) x3 I6))) else (some ((atf (I 73) 50 (0 : Int32)), I)))
def lb_43_3 : Int32 → Int32 → Int32 → (Nat → Nat → Int32) → Option (Int32 × (Nat → Nat → Int32)) := fx (fun _ _ _ _ => none) (bd_43_3 ) FU
def lb_43_2 (x1 : Int32) (x2 : Int32) (s0 : Int32) (I : (Nat → Nat → Int32)) : Option (Int32 × (Nat → Nat → Int32)) :=
  (lb_43_3  x1 x2 s0 I)
def f_43 (x1 : Int32) (I : (Nat → Nat → Int32)) : Option (Int32 × (Nat → Nat → Int32)) :=
  (if 0 < x1 then (lb_43_2  x1 (0 : Int32) (atf (I 69) 8 (x1 - (1 : Int32))) I) else (lb_43_2  x1 (0 : Int32) (0 : Int32) I))
theorem tl_43_9 {d : Nat} {κ : Nat × Option Nat} {cs : Nat × Nat} {J : Nat → Nat → Int64} {W : Nat} (c3 : Int32 → Int32 → Int32 → (Nat → Nat → Int32) → Option (Int32 × (Nat → Nat → Int32))) (k3 : ∀ (x1 : Int32) (x2 : Int32) (x3 : Int32) (I : (Nat → Nat → Int32)) (r : (Int32 × (Nat → Nat → Int32))), c3 x1 x2 x3 I = some r → tt (d + 2) me_43 bk_43_3 [some (.ref 67), some (.int x1), some (.int x2), some (.int x3), none] [] (cw κ cs I J W) (.inl (some (.int r.1))) (cw κ cs r.2 J W)) (x1 : Int32) (x2 : Int32) (x3 : Int32) (I : (Nat → Nat → Int32)) (r : (Int32 × (Nat → Nat → Int32))) (h : lb_43_9 c3 x1 x2 x3 I = some r) : tt (d + 2) me_43 bk_43_9 [some (.ref 67), some (.int x1), some (.int x2), some (.int x3), none] [] (cw κ cs I J W) (.inl (some (.int r.1))) (cw κ cs r.2 J W) :=
  tt_S (L1 := bk_43_3) 2 [some (.ref 67), some (.int x1), some (.int x2), some (.int (x3 + (1 : Int32))), none] [] (cw κ cs I J W) (fun _ => rfl) (tt_F [some (.ref 67), some (.int x1), some (.int x2), some (.int (x3 + (1 : Int32))), none] (And.intro rfl (And.intro rfl (And.intro rfl (And.intro rfl trivial)))) (k3 x1 x2 (x3 + (1 : Int32)) I _ h))
theorem tl_43_7 {d : Nat} {κ : Nat × Option Nat} {cs : Nat × Nat} {J : Nat → Nat → Int64} {W : Nat} (c3 : Int32 → Int32 → Int32 → (Nat → Nat → Int32) → Option (Int32 × (Nat → Nat → Int32))) (k3 : ∀ (x1 : Int32) (x2 : Int32) (x3 : Int32) (I : (Nat → Nat → Int32)) (r : (Int32 × (Nat → Nat → Int32))), c3 x1 x2 x3 I = some r → tt (d + 2) me_43 bk_43_3 [some (.ref 67), some (.int x1), some (.int x2), some (.int x3), none] [] (cw κ cs I J W) (.inl (some (.int r.1))) (cw κ cs r.2 J W)) (x1 : Int32) (x2 : Int32) (x3 : Int32) (s1 : Int32) (s2 : Int32) (I : (Nat → Nat → Int32)) (r : (Int32 × (Nat → Nat → Int32))) (h : lb_43_7 c3 x1 x2 x3 s1 s2 I = some r) : tt (d + 2) me_43 bk_43_7 [some (.ref 67), some (.int x1), some (.int x2), some (.int x3), none] [.int s2, .int s1, .ref 73] (cw κ cs I J W) (.inl (some (.int r.1))) (cw κ cs r.2 J W) :=
  tt_C (L1 := (bk_43_7.drop 1)) 1 [some (.ref 67), some (.int x1), some (.int x2), some (.int x3), none] [.int s1, .ref 73] (cw κ cs I J W) h (fun _ => rfl) (fun _ e => m_45 (d := d + 1) e) fun q3 h =>
  let I4 := putf I 73 50 s1 q3
  tt_K (L1 := (bk_43_7.drop 2)) 1 [some (.ref 67), some (.int x1), some (.int x2), some (.int x3), none] [] (cw κ cs I J W) (fun _ => rfl) (m_put 73 50 s1 q3 (Nat.le_of_ble_eq_true rfl) rfl (Nat.le_of_ble_eq_true rfl))
  (tt_S (L1 := bk_43_9) 1 [some (.ref 67), some (.int x1), some (.int x2), some (.int x3), none] [] (cw κ cs I4 J W) (fun _ => rfl) (tt_F [some (.ref 67), some (.int x1), some (.int x2), some (.int x3), none] (And.intro rfl (And.intro rfl (And.intro rfl (And.intro rfl trivial)))) (tl_43_9 c3 k3 x1 x2 x3 I4 _ h)))
theorem tb_43_3 {d : Nat} {κ : Nat × Option Nat} {cs : Nat × Nat} {J : Nat → Nat → Int64} {W : Nat} (c3 : Int32 → Int32 → Int32 → (Nat → Nat → Int32) → Option (Int32 × (Nat → Nat → Int32))) (k3 : ∀ (x1 : Int32) (x2 : Int32) (x3 : Int32) (I : (Nat → Nat → Int32)) (r : (Int32 × (Nat → Nat → Int32))), c3 x1 x2 x3 I = some r → tt (d + 2) me_43 bk_43_3 [some (.ref 67), some (.int x1), some (.int x2), some (.int x3), none] [] (cw κ cs I J W) (.inl (some (.int r.1))) (cw κ cs r.2 J W)) (x1 : Int32) (x2 : Int32) (x3 : Int32) (I : (Nat → Nat → Int32)) (r : (Int32 × (Nat → Nat → Int32))) (h : bd_43_3  c3 x1 x2 x3 I = some r) : tt (d + 2) me_43 bk_43_3 [some (.ref 67), some (.int x1), some (.int x2), some (.int x3), none] [] (cw κ cs I J W) (.inl (some (.int r.1))) (cw κ cs r.2 J W) :=
  tt_K (L1 := (bk_43_3.drop 5)) 5 [some (.ref 67), some (.int x1), some (.int x2), some (.int x3), none] [.int x3] (cw κ cs I J W) (fun _ => rfl) (m_at 69 8 x1 (Nat.le_of_ble_eq_true rfl) rfl)
  (tt_I (L1 := (bk_43_3.drop 6)) (L2 := bk_43_10) 1 [some (.ref 67), some (.int x1), some (.int x2), some (.int x3), none] [] (cw κ cs I J W) h (fun _ => rfl) (fun h =>
  tt_K (L1 := (bk_43_3.drop 10)) 4 [some (.ref 67), some (.int x1), some (.int x2), some (.int x3), none] [] (cw κ cs I J W) (fun _ => rfl) (m_at 68 500 x3 (Nat.le_of_ble_eq_true rfl) rfl)
  (tt_I (L1 := bk_43_4) (L2 := (bk_43_3.drop 13)) 3 [some (.ref 67), some (.int x1), some (.int x2), some (.int x3), some (.int (atf (I 68) 500 x3))] [] (cw κ cs I J W) h (fun _ => rfl) (fun h =>
  tt_I (L1 := bk_43_5) (L2 := (bk_43_4.drop 3)) 3 [some (.ref 67), some (.int x1), some (.int x2), some (.int x3), some (.int (atf (I 68) 500 x3))] [] (cw κ cs I J W) h (fun _ => rfl) (fun h =>
  tt_I (L1 := (bk_43_5.drop 3)) (L2 := bk_43_8) 3 [some (.ref 67), some (.int x1), some (.int x2), some (.int x3), some (.int (atf (I 68) 500 x3))] [] (cw κ cs I J W) h (fun _ => rfl) (fun h =>
  tt_K (L1 := (bk_43_5.drop 14)) 11 [some (.ref 67), some (.int x1), some (.int x2), some (.int x3), some (.int (atf (I 68) 500 x3))] [.int (x2 - (1 : Int32)), .ref 73] (cw κ cs I J W) (fun _ => rfl) (m_at 73 50 (x2 - (1 : Int32)) (Nat.le_of_ble_eq_true rfl) rfl)
  (tt_I (L1 := (bk_43_5.drop 15)) (L2 := bk_43_6) 1 [some (.ref 67), some (.int x1), some (.int x2), some (.int x3), some (.int (atf (I 68) 500 x3))] [.int (x2 - (1 : Int32)), .ref 73] (cw κ cs I J W) h (fun _ => rfl) (fun h =>
  tt_S (L1 := bk_43_7) 2 [some (.ref 67), some (.int x1), some (.int x2), some (.int x3), some (.int (atf (I 68) 500 x3))] [.int (1 : Int32), .int (x2 - (1 : Int32)), .ref 73] (cw κ cs I J W) (fun _ => rfl) (tt_F [some (.ref 67), some (.int x1), some (.int x2), some (.int x3), none] (And.intro rfl (And.intro rfl (And.intro rfl (And.intro rfl trivial)))) (tl_43_7 c3 k3 x1 x2 x3 (x2 - (1 : Int32)) (1 : Int32) I _ h))) (fun h =>
  tt_S (L1 := bk_43_7) 1 [some (.ref 67), some (.int x1), some (.int x2), some (.int x3), some (.int (atf (I 68) 500 x3))] [.int (0 : Int32), .int (x2 - (1 : Int32)), .ref 73] (cw κ cs I J W) (fun _ => rfl) (tt_F [some (.ref 67), some (.int x1), some (.int x2), some (.int x3), none] (And.intro rfl (And.intro rfl (And.intro rfl (And.intro rfl trivial)))) (tl_43_7 c3 k3 x1 x2 x3 (x2 - (1 : Int32)) (0 : Int32) I _ h))))) (fun h =>
  tt_K (L1 := (bk_43_8.drop 13)) 13 [some (.ref 67), some (.int x1), some (.int (x2 + ((-1) : Int32))), some (.int x3), some (.int (atf (I 68) 500 x3))] [.int (atf (I 68) 500 x3), .int ((x2 + ((-1) : Int32)) - (1 : Int32)), .ref 73] (cw κ cs I J W) (fun _ => rfl) (m_at 73 50 ((x2 + ((-1) : Int32)) - (1 : Int32)) (Nat.le_of_ble_eq_true rfl) rfl)
  (tt_K (L1 := (bk_43_8.drop 17)) 4 [some (.ref 67), some (.int x1), some (.int (x2 + ((-1) : Int32))), some (.int x3), some (.int (atf (I 68) 500 x3))] [.int (atf (I 73) 50 ((x2 + ((-1) : Int32)) - (1 : Int32))), .int (atf (I 68) 500 x3), .int ((x2 + ((-1) : Int32)) - (1 : Int32)), .ref 73] (cw κ cs I J W) (fun _ => rfl) (m_at 73 50 (x2 + ((-1) : Int32)) (Nat.le_of_ble_eq_true rfl) rfl)
  (tt_C (L1 := (bk_43_8.drop 18)) 1 [some (.ref 67), some (.int x1), some (.int (x2 + ((-1) : Int32))), some (.int x3), some (.int (atf (I 68) 500 x3))] [.int ((x2 + ((-1) : Int32)) - (1 : Int32)), .ref 73] (cw κ cs I J W) h (fun _ => rfl) (fun _ e => m_44 (d := d) e) fun q1 h =>
  let I2 := putf I 73 50 ((x2 + ((-1) : Int32)) - (1 : Int32)) q1
  tt_K (L1 := bk_43_9) 1 [some (.ref 67), some (.int x1), some (.int (x2 + ((-1) : Int32))), some (.int x3), some (.int (atf (I 68) 500 x3))] [] (cw κ cs I J W) (fun _ => rfl) (m_put 73 50 ((x2 + ((-1) : Int32)) - (1 : Int32)) q1 (Nat.le_of_ble_eq_true rfl) rfl (Nat.le_of_ble_eq_true rfl))
  (tt_F [some (.ref 67), some (.int x1), some (.int (x2 + ((-1) : Int32))), some (.int x3), none] (And.intro rfl (And.intro rfl (And.intro rfl (And.intro rfl trivial)))) (tl_43_9 c3 k3 x1 (x2 + ((-1) : Int32)) x3 I2 _ h)))))) (fun h =>
  tt_K (L1 := (bk_43_4.drop 12)) 9 [some (.ref 67), some (.int x1), some (.int x2), some (.int x3), some (.int (atf (I 68) 500 x3))] [.int x2, .ref 73] (cw κ cs I J W) (fun _ => rfl) (m_at 72 6 (((-1) : Int32) - (atf (I 68) 500 x3)) (Nat.le_of_ble_eq_true rfl) rfl)
  (let I5 := putf I 73 50 x2 (atf (I 72) 6 (((-1) : Int32) - (atf (I 68) 500 x3)))
  tt_K (L1 := (bk_43_4.drop 13)) 1 [some (.ref 67), some (.int x1), some (.int x2), some (.int x3), some (.int (atf (I 68) 500 x3))] [] (cw κ cs I J W) (fun _ => rfl) (m_put 73 50 x2 (atf (I 72) 6 (((-1) : Int32) - (atf (I 68) 500 x3))) (Nat.le_of_ble_eq_true rfl) rfl (Nat.le_of_ble_eq_true rfl))
  (tt_S (L1 := bk_43_9) 2 [some (.ref 67), some (.int x1), some (.int (x2 + (1 : Int32))), some (.int x3), some (.int (atf (I 68) 500 x3))] [] (cw κ cs I5 J W) (fun _ => rfl) (tt_F [some (.ref 67), some (.int x1), some (.int (x2 + (1 : Int32))), some (.int x3), none] (And.intro rfl (And.intro rfl (And.intro rfl (And.intro rfl trivial)))) (tl_43_9 c3 k3 x1 (x2 + (1 : Int32)) x3 I5 _ h)))))) (fun h =>
  let I6 := putf I 73 50 x2 (atf (I 68) 500 x3)
  tt_K (L1 := (bk_43_3.drop 18)) 5 [some (.ref 67), some (.int x1), some (.int x2), some (.int x3), some (.int (atf (I 68) 500 x3))] [] (cw κ cs I J W) (fun _ => rfl) (m_put 73 50 x2 (atf (I 68) 500 x3) (Nat.le_of_ble_eq_true rfl) rfl (Nat.le_of_ble_eq_true rfl))
  (tt_S (L1 := bk_43_9) 2 [some (.ref 67), some (.int x1), some (.int (x2 + (1 : Int32))), some (.int x3), some (.int (atf (I 68) 500 x3))] [] (cw κ cs I6 J W) (fun _ => rfl) (tt_F [some (.ref 67), some (.int x1), some (.int (x2 + (1 : Int32))), some (.int x3), none] (And.intro rfl (And.intro rfl (And.intro rfl (And.intro rfl trivial)))) (tl_43_9 c3 k3 x1 (x2 + (1 : Int32)) x3 I6 _ h)))))) (fun h =>
  tt_K (L1 := (bk_43_10.drop 4)) 4 [some (.ref 67), some (.int x1), some (.int x2), some (.int x3), none] [] (cw κ cs I J W) (fun _ => rfl) (m_at 73 50 (0 : Int32) (Nat.le_of_ble_eq_true rfl) rfl)
  (tt_R 1 (fun r => (.inl (some (.int r.1)))) (fun r => (cw κ cs r.2 J W)) h (fun _ => rfl))))
theorem tn_43_3 {d : Nat} {κ : Nat × Option Nat} {cs : Nat × Nat} {J : Nat → Nat → Int64} {W : Nat} : ∀ (n : Nat) (x1 : Int32) (x2 : Int32) (x3 : Int32) (I : (Nat → Nat → Int32)) (r : (Int32 × (Nat → Nat → Int32))), fx (fun _ _ _ _ => none) (bd_43_3 ) n x1 x2 x3 I = some r → tt (d + 2) me_43 bk_43_3 [some (.ref 67), some (.int x1), some (.int x2), some (.int x3), none] [] (cw κ cs I J W) (.inl (some (.int r.1))) (cw κ cs r.2 J W)
  | 0 => fun _ _ _ _ _ h => nomatch h
  | n + 1 => fun x1 x2 x3 I r h => tb_43_3  (fx _ (bd_43_3 ) n) (tn_43_3  n) x1 x2 x3 I r h
theorem tl_43_3 {d : Nat} {κ : Nat × Option Nat} {cs : Nat × Nat} {J : Nat → Nat → Int64} {W : Nat} (x1 : Int32) (x2 : Int32) (x3 : Int32) (I : (Nat → Nat → Int32)) (r : (Int32 × (Nat → Nat → Int32))) (h : lb_43_3  x1 x2 x3 I = some r) : tt (d + 2) me_43 bk_43_3 [some (.ref 67), some (.int x1), some (.int x2), some (.int x3), none] [] (cw κ cs I J W) (.inl (some (.int r.1))) (cw κ cs r.2 J W) := tn_43_3  FU x1 x2 x3 I r h
theorem tl_43_2 {d : Nat} {κ : Nat × Option Nat} {cs : Nat × Nat} {J : Nat → Nat → Int64} {W : Nat} (x1 : Int32) (x2 : Int32) (s0 : Int32) (I : (Nat → Nat → Int32)) (r : (Int32 × (Nat → Nat → Int32))) (h : lb_43_2  x1 x2 s0 I = some r) : tt (d + 2) me_43 bk_43_2 [some (.ref 67), some (.int x1), some (.int x2), none, none] [.int s0] (cw κ cs I J W) (.inl (some (.int r.1))) (cw κ cs r.2 J W) :=
  tt_S (L1 := bk_43_3) 1 [some (.ref 67), some (.int x1), some (.int x2), some (.int s0), none] [] (cw κ cs I J W) (fun _ => rfl) (tt_F [some (.ref 67), some (.int x1), some (.int x2), some (.int s0), none] (And.intro rfl (And.intro rfl (And.intro rfl (And.intro rfl trivial)))) (tl_43_3  x1 x2 s0 I _ h))
theorem m_43 {d : Nat} {κ : Nat × Option Nat} {cs : Nat × Nat} {J : Nat → Nat → Int64} {W : Nat} {x1 : Int32} {I : (Nat → Nat → Int32)} {r : (Int32 × (Nat → Nat → Int32))} (h : f_43 x1 I = some r) : tm (d + 2) 43 [.ref 67, .int x1] (cw κ cs I J W) (.inl (some (.int r.1))) (cw κ cs r.2 J W) :=
  tm_of me_43 rfl (Nat.le_of_ble_eq_true rfl) (
  tt_I (L1 := (bk_43_0.drop 4)) (L2 := bk_43_1) 4 [some (.ref 67), some (.int x1), some (.int (0 : Int32)), none, none] [] (cw κ cs I J W) h (fun _ => rfl) (fun h =>
  tt_K (L1 := (bk_43_0.drop 10)) 6 [some (.ref 67), some (.int x1), some (.int (0 : Int32)), none, none] [] (cw κ cs I J W) (fun _ => rfl) (m_at 69 8 (x1 - (1 : Int32)) (Nat.le_of_ble_eq_true rfl) rfl)
  (tt_S (L1 := bk_43_2) 1 [some (.ref 67), some (.int x1), some (.int (0 : Int32)), none, none] [.int (atf (I 69) 8 (x1 - (1 : Int32)))] (cw κ cs I J W) (fun _ => rfl) (tt_F [some (.ref 67), some (.int x1), some (.int (0 : Int32)), none, none] (And.intro rfl (And.intro rfl (And.intro rfl trivial))) (tl_43_2  x1 (0 : Int32) (atf (I 69) 8 (x1 - (1 : Int32))) I _ h)))) (fun h =>
  tt_S (L1 := bk_43_2) 1 [some (.ref 67), some (.int x1), some (.int (0 : Int32)), none, none] [.int (0 : Int32)] (cw κ cs I J W) (fun _ => rfl) (tt_F [some (.ref 67), some (.int x1), some (.int (0 : Int32)), none, none] (And.intro rfl (And.intro rfl (And.intro rfl trivial))) (tl_43_2  x1 (0 : Int32) (0 : Int32) I _ h))))
/- 49 -/
def bd_49_1 (c1 : Int32 → (Nat → Nat → Int32) → Option (Nat → Nat → Int32)) (x1 : Int32) (I : (Nat → Nat → Int32)) : Option (Nat → Nat → Int32) :=
  (if x1 < (I 79 5) then (let I4 := putf I 82 48 x1 ((I 79 5) / (2 : Int32))
  (c1 (x1 + (1 : Int32)) I4)) else (some I))
def lb_49_1 : Int32 → (Nat → Nat → Int32) → Option (Nat → Nat → Int32) := fx (fun _ _ => none) (bd_49_1 ) FU
def f_49 (I : (Nat → Nat → Int32)) : Option (Nat → Nat → Int32) :=
  (let I1 := up I 79 9 (1 : Int32)
  (let I2 := putf I1 80 8 (0 : Int32) (0 : Int32)
  (let I3 := putf I2 81 8 (0 : Int32) (1 : Int32)
  (lb_49_1  (0 : Int32) I3))))
theorem tb_49_1 {d : Nat} {κ : Nat × Option Nat} {cs : Nat × Nat} {J : Nat → Nat → Int64} {W : Nat} (c1 : Int32 → (Nat → Nat → Int32) → Option (Nat → Nat → Int32)) (k1 : ∀ (x1 : Int32) (I : (Nat → Nat → Int32)) (r : (Nat → Nat → Int32)), c1 x1 I = some r → tt (d + 1) me_49 bk_49_1 [some (.ref 79), some (.int x1)] [] (cw κ cs I J W) (.inl none) (cw κ cs r J W)) (x1 : Int32) (I : (Nat → Nat → Int32)) (r : (Nat → Nat → Int32)) (h : bd_49_1  c1 x1 I = some r) : tt (d + 1) me_49 bk_49_1 [some (.ref 79), some (.int x1)] [] (cw κ cs I J W) (.inl none) (cw κ cs r J W) :=
  tt_I (L1 := (bk_49_1.drop 4)) (L2 := bk_49_2) 4 [some (.ref 79), some (.int x1)] [] (cw κ cs I J W) h (fun _ => rfl) (fun h =>
  let I4 := putf I 82 48 x1 ((I 79 5) / (2 : Int32))
  tt_K (L1 := (bk_49_1.drop 12)) 8 [some (.ref 79), some (.int x1)] [] (cw κ cs I J W) (fun _ => rfl) (m_put 82 48 x1 ((I 79 5) / (2 : Int32)) (Nat.le_of_ble_eq_true rfl) rfl (Nat.le_of_ble_eq_true rfl))
  (tt_S (L1 := bk_49_1) 2 [some (.ref 79), some (.int (x1 + (1 : Int32)))] [] (cw κ cs I4 J W) (fun _ => rfl) (tt_F [some (.ref 79), some (.int (x1 + (1 : Int32)))] (And.intro rfl (And.intro rfl trivial)) (k1 (x1 + (1 : Int32)) I4 _ h)))) (fun h =>
  tt_R 1 (fun r => (.inl none)) (fun r => (cw κ cs r J W)) h (fun _ => rfl))
theorem tn_49_1 {d : Nat} {κ : Nat × Option Nat} {cs : Nat × Nat} {J : Nat → Nat → Int64} {W : Nat} : ∀ (n : Nat) (x1 : Int32) (I : (Nat → Nat → Int32)) (r : (Nat → Nat → Int32)), fx (fun _ _ => none) (bd_49_1 ) n x1 I = some r → tt (d + 1) me_49 bk_49_1 [some (.ref 79), some (.int x1)] [] (cw κ cs I J W) (.inl none) (cw κ cs r J W)
  | 0 => fun _ _ _ h => nomatch h
  | n + 1 => fun x1 I r h => tb_49_1  (fx _ (bd_49_1 ) n) (tn_49_1  n) x1 I r h
theorem tl_49_1 {d : Nat} {κ : Nat × Option Nat} {cs : Nat × Nat} {J : Nat → Nat → Int64} {W : Nat} (x1 : Int32) (I : (Nat → Nat → Int32)) (r : (Nat → Nat → Int32)) (h : lb_49_1  x1 I = some r) : tt (d + 1) me_49 bk_49_1 [some (.ref 79), some (.int x1)] [] (cw κ cs I J W) (.inl none) (cw κ cs r J W) := tn_49_1  FU x1 I r h
theorem m_49 {d : Nat} {κ : Nat × Option Nat} {cs : Nat × Nat} {J : Nat → Nat → Int64} {W : Nat} {I : (Nat → Nat → Int32)} {r : (Nat → Nat → Int32)} (h : f_49  I = some r) : tm (d + 1) 49 [.ref 79] (cw κ cs I J W) (.inl none) (cw κ cs r J W) :=
  tm_of me_49 rfl (Nat.le_of_ble_eq_true rfl) (
  let I1 := up I 79 9 (1 : Int32)
  let I2 := putf I1 80 8 (0 : Int32) (0 : Int32)
  tt_K (L1 := (bk_49_0.drop 8)) 8 [some (.ref 79), none] [] (cw κ cs I1 J W) (fun _ => rfl) (m_put 80 8 (0 : Int32) (0 : Int32) (Nat.le_of_ble_eq_true rfl) rfl (Nat.le_of_ble_eq_true rfl))
  (let I3 := putf I2 81 8 (0 : Int32) (1 : Int32)
  tt_K (L1 := (bk_49_0.drop 13)) 5 [some (.ref 79), none] [] (cw κ cs I2 J W) (fun _ => rfl) (m_put 81 8 (0 : Int32) (1 : Int32) (Nat.le_of_ble_eq_true rfl) rfl (Nat.le_of_ble_eq_true rfl))
  (tt_S (L1 := bk_49_1) 2 [some (.ref 79), some (.int (0 : Int32))] [] (cw κ cs I3 J W) (fun _ => rfl) (tt_F [some (.ref 79), some (.int (0 : Int32))] (And.intro rfl (And.intro rfl trivial)) (tl_49_1  (0 : Int32) I3 _ h)))))
