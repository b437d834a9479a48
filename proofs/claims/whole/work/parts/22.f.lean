/-! functions, by wip/whole/sy.py -/
/- 126 -/
def lb_126_2 (s0 : Int32) : Option Int32 :=
  (some s0)
def f_126 (x0 : Int32) (x1 : Int32) : Option Int32 :=
  (if 0 < x1 then (if x1 = 0 then none else (lb_126_2  (x0 / x1) )) else (lb_126_2  (0 : Int32) ))
theorem tl_126_2 {d : Nat} {κ : KT} {cs : Nat × Nat} {I : Nat → Nat → Int32} {J : Nat → Nat → Int64} {W : Nat} (s0 : Int32) (r : Int32) (h : lb_126_2  s0  = some r) : tt d me_126 bk_126_2 [none, none] [.int s0] (cw κ cs I J W) (.inl (some (.int r))) (cw κ cs I J W) :=
  tt_R 1 (fun r => (.inl (some (.int r)))) (fun r => (cw κ cs I J W)) h (fun _ => rfl)
theorem m_126 {d : Nat} {κ : KT} {cs : Nat × Nat} {I : Nat → Nat → Int32} {J : Nat → Nat → Int64} {W : Nat} {x0 : Int32} {x1 : Int32} {r : Int32} (h : f_126 x0 x1  = some r) : tm d 126 [.int x0, .int x1] (cw κ cs I J W) (.inl (some (.int r))) (cw κ cs I J W) :=
  tm_of me_126 rfl (Nat.le_of_ble_eq_true rfl) (
  tt_I (L1 := (bk_126_0.drop 2)) (L2 := bk_126_1) 2 [some (.int x0), some (.int x1)] [] (cw κ cs I J W) h (fun _ => rfl) (fun h =>
  tt_J (L1 := (bk_126_0.drop 4)) 1 [some (.int x0), some (.int x1)] [.int x1, .int x0] (cw κ cs I J W) (fun _ => rfl) (
  tt_Di h fun h =>
  tt_J (L1 := bk_126_2) 0 [some (.int x0), some (.int x1)] [.int (x0 / x1)] (cw κ cs I J W) (fun _ => rfl) (tt_F [none, none] trivial (tl_126_2  (x0 / x1)  _ h)))) (fun h =>
  tt_J (L1 := bk_126_2) 0 [some (.int x0), some (.int x1)] [.int (0 : Int32)] (cw κ cs I J W) (fun _ => rfl) (tt_F [none, none] trivial (tl_126_2  (0 : Int32)  _ h))))
/- 211 -/
def lb_211_1 (x2 : Int32) : Option Int32 :=
  (some x2)
def f_211 (x0 : Int32) (x1 : Int32) : Option Int32 :=
  (if x1 = 0 then none else (if (x0 ^^^ x1) < 0 then (if (x0 - x0 / x1 * x1) = 0 then (lb_211_1  (x0 - x0 / x1 * x1) ) else (some ((x0 - x0 / x1 * x1) + x1))) else (lb_211_1  (x0 - x0 / x1 * x1) )))
theorem tl_211_1 {d : Nat} {κ : KT} {cs : Nat × Nat} {I : Nat → Nat → Int32} {J : Nat → Nat → Int64} {W : Nat} (x2 : Int32) (r : Int32) (h : lb_211_1  x2  = some r) : tt d me_211 bk_211_1 [none, none, some (.int x2)] [] (cw κ cs I J W) (.inl (some (.int r))) (cw κ cs I J W) :=
  tt_R 2 (fun r => (.inl (some (.int r)))) (fun r => (cw κ cs I J W)) h (fun _ => rfl)
theorem m_211 {d : Nat} {κ : KT} {cs : Nat × Nat} {I : Nat → Nat → Int32} {J : Nat → Nat → Int64} {W : Nat} {x0 : Int32} {x1 : Int32} {r : Int32} (h : f_211 x0 x1  = some r) : tm d 211 [.int x0, .int x1] (cw κ cs I J W) (.inl (some (.int r))) (cw κ cs I J W) :=
  tm_of me_211 rfl (Nat.le_of_ble_eq_true rfl) (
  tt_J (L1 := (bk_211_0.drop 2)) 1 [some (.int x0), some (.int x1), none] [.int x1, .int x0] (cw κ cs I J W) (fun _ => rfl) (
  tt_Dr h fun h =>
  tt_I (L1 := (bk_211_0.drop 8)) (L2 := bk_211_1) 5 [some (.int x0), some (.int x1), some (.int (x0 - x0 / x1 * x1))] [] (cw κ cs I J W) h (fun _ => rfl) (fun h =>
  tt_I (L1 := bk_211_1) (L2 := (bk_211_0.drop 10)) 2 [some (.int x0), some (.int x1), some (.int (x0 - x0 / x1 * x1))] [] (cw κ cs I J W) h (fun _ => rfl) (fun h =>
  tt_F [none, none, some (.int (x0 - x0 / x1 * x1))] (And.intro rfl trivial) (tl_211_1  (x0 - x0 / x1 * x1)  _ h)) (fun h =>
  tt_R 4 (fun r => (.inl (some (.int r)))) (fun r => (cw κ cs I J W)) h (fun _ => rfl))) (fun h =>
  tt_F [none, none, some (.int (x0 - x0 / x1 * x1))] (And.intro rfl trivial) (tl_211_1  (x0 - x0 / x1 * x1)  _ h))))
/- 125 -/
def lb_125_2 (s0 : Int32) : Option Int32 :=
  (some s0)
def f_125 (x0 : Int32) (x1 : Int32) : Option Int32 :=
  (if 0 < x1 then ((f_211 x0 x1 ).bind fun q1 => (lb_125_2  q1 )) else (lb_125_2  (0 : Int32) ))
theorem tl_125_2 {d : Nat} {κ : KT} {cs : Nat × Nat} {I : Nat → Nat → Int32} {J : Nat → Nat → Int64} {W : Nat} (s0 : Int32) (r : Int32) (h : lb_125_2  s0  = some r) : tt (d + 1) me_125 bk_125_2 [none, none] [.int s0] (cw κ cs I J W) (.inl (some (.int r))) (cw κ cs I J W) :=
  tt_R 1 (fun r => (.inl (some (.int r)))) (fun r => (cw κ cs I J W)) h (fun _ => rfl)
theorem m_125 {d : Nat} {κ : KT} {cs : Nat × Nat} {I : Nat → Nat → Int32} {J : Nat → Nat → Int64} {W : Nat} {x0 : Int32} {x1 : Int32} {r : Int32} (h : f_125 x0 x1  = some r) : tm (d + 1) 125 [.int x0, .int x1] (cw κ cs I J W) (.inl (some (.int r))) (cw κ cs I J W) :=
  tm_of me_125 rfl (Nat.le_of_ble_eq_true rfl) (
  tt_I (L1 := (bk_125_0.drop 2)) (L2 := bk_125_1) 2 [some (.int x0), some (.int x1)] [] (cw κ cs I J W) h (fun _ => rfl) (fun h =>
  tt_C (L1 := (bk_125_0.drop 5)) 3 [some (.int x0), some (.int x1)] [] (cw κ cs I J W) h (fun _ => rfl) (fun _ e => m_211 (d := d) e) fun q1 h =>
  tt_J (L1 := bk_125_2) 0 [some (.int x0), some (.int x1)] [.int q1] (cw κ cs I J W) (fun _ => rfl) (tt_F [none, none] trivial (tl_125_2  q1  _ h))) (fun h =>
  tt_J (L1 := bk_125_2) 0 [some (.int x0), some (.int x1)] [.int (0 : Int32)] (cw κ cs I J W) (fun _ => rfl) (tt_F [none, none] trivial (tl_125_2  (0 : Int32)  _ h))))
/- 2 -/
def lb_2_6 (s0 : Int32) (I : (Nat → Nat → Int32)) : Option Int32 :=
  (some s0)
def lb_2_3 (s0 : Int32) (I : (Nat → Nat → Int32)) : Option Int32 :=
  (some s0)
def f_2 (x1 : Int32) (x2 : Int32) (I : (Nat → Nat → Int32)) : Option Int32 :=
  (if x1 = 0 then ((f_125 x2 (I 74 5) ).bind fun q6 => (some q6)) else (if x1 = (1 : Int32) then ((f_125 x2 ((2 : Int32) * (I 74 5)) ).bind fun q5 => (if q5 < (I 74 5) then (lb_2_3  q5 I) else (lb_2_3  ((((2 : Int32) * (I 74 5)) - (1 : Int32)) - q5) I))) else ((f_126 (I 74 4) (I 74 5) ).bind fun q1 => ((f_125 (I 74 4) (I 74 5) ).bind fun q2 => (if x2 < (q2 * (q1 + (1 : Int32))) then ((f_126 x2 (q1 + (1 : Int32)) ).bind fun q4 => (lb_2_6  q4 I)) else ((f_126 (x2 - (q2 * (q1 + (1 : Int32)))) q1 ).bind fun q3 => (lb_2_6  (q2 + q3) I)))))))
theorem tl_2_6 {d : Nat} {κ : KT} {cs : Nat × Nat} {J : Nat → Nat → Int64} {W : Nat} (s0 : Int32) (I : (Nat → Nat → Int32)) (r : Int32) (h : lb_2_6  s0 I = some r) : tt (d + 2) me_2 bk_2_6 [none, none, none, none, none, none] [.int s0] (cw κ cs I J W) (.inl (some (.int r))) (cw κ cs I J W) :=
  tt_R 1 (fun r => (.inl (some (.int r)))) (fun r => (cw κ cs I J W)) h (fun _ => rfl)
theorem tl_2_3 {d : Nat} {κ : KT} {cs : Nat × Nat} {J : Nat → Nat → Int64} {W : Nat} (s0 : Int32) (I : (Nat → Nat → Int32)) (r : Int32) (h : lb_2_3  s0 I = some r) : tt (d + 2) me_2 bk_2_3 [none, none, none, none, none, none] [.int s0] (cw κ cs I J W) (.inl (some (.int r))) (cw κ cs I J W) :=
  tt_R 1 (fun r => (.inl (some (.int r)))) (fun r => (cw κ cs I J W)) h (fun _ => rfl)
theorem m_2 {d : Nat} {κ : KT} {cs : Nat × Nat} {J : Nat → Nat → Int64} {W : Nat} {x1 : Int32} {x2 : Int32} {I : (Nat → Nat → Int32)} {r : Int32} (h : f_2 x1 x2 I = some r) : tm (d + 2) 2 [.ref 74, .int x1, .int x2] (cw κ cs I J W) (.inl (some (.int r))) (cw κ cs I J W) :=
  tm_of me_2 rfl (Nat.le_of_ble_eq_true rfl) (
  tt_I (L1 := (bk_2_0.drop 2)) (L2 := bk_2_1) 2 [some (.ref 74), some (.int x1), some (.int x2), none, none, none] [] (cw κ cs I J W) h (fun _ => rfl) (fun h =>
  tt_C (L1 := (bk_2_0.drop 6)) 4 [some (.ref 74), some (.int x1), some (.int x2), none, none, none] [] (cw κ cs I J W) h (fun _ => rfl) (fun _ e => m_125 (d := d) e) fun q6 h =>
  tt_R 1 (fun r => (.inl (some (.int r)))) (fun r => (cw κ cs I J W)) h (fun _ => rfl)) (fun h =>
  tt_I (L1 := (bk_2_1.drop 3)) (L2 := bk_2_4) 3 [some (.ref 74), some (.int x1), some (.int x2), none, none, none] [] (cw κ cs I J W) h (fun _ => rfl) (fun h =>
  tt_C (L1 := (bk_2_1.drop 9)) 6 [some (.ref 74), some (.int x1), some (.int x2), none, none, none] [] (cw κ cs I J W) h (fun _ => rfl) (fun _ e => m_125 (d := d) e) fun q5 h =>
  tt_I (L1 := (bk_2_1.drop 14)) (L2 := bk_2_2) 5 [some (.ref 74), some (.int x1), some (.int x2), some (.int q5), none, none] [] (cw κ cs I J W) h (fun _ => rfl) (fun h =>
  tt_J (L1 := bk_2_3) 1 [some (.ref 74), some (.int x1), some (.int x2), some (.int q5), none, none] [.int q5] (cw κ cs I J W) (fun _ => rfl) (tt_F [none, none, none, none, none, none] trivial (tl_2_3  q5 I _ h))) (fun h =>
  tt_J (L1 := bk_2_3) 7 [some (.ref 74), some (.int x1), some (.int x2), some (.int q5), none, none] [.int ((((2 : Int32) * (I 74 5)) - (1 : Int32)) - q5)] (cw κ cs I J W) (fun _ => rfl) (tt_F [none, none, none, none, none, none] trivial (tl_2_3  ((((2 : Int32) * (I 74 5)) - (1 : Int32)) - q5) I _ h)))) (fun h =>
  tt_C (L1 := (bk_2_4.drop 5)) 5 [some (.ref 74), some (.int x1), some (.int x2), none, none, none] [] (cw κ cs I J W) h (fun _ => rfl) (fun _ e => m_126 (d := d + 1) e) fun q1 h =>
  tt_C (L1 := (bk_2_4.drop 11)) 6 [some (.ref 74), some (.int x1), some (.int x2), some (.int q1), none, none] [] (cw κ cs I J W) h (fun _ => rfl) (fun _ e => m_125 (d := d) e) fun q2 h =>
  tt_I (L1 := (bk_2_4.drop 21)) (L2 := bk_2_5) 10 [some (.ref 74), some (.int x1), some (.int x2), some (.int q1), some (.int q2), some (.int (q2 * (q1 + (1 : Int32))))] [] (cw κ cs I J W) h (fun _ => rfl) (fun h =>
  tt_C (L1 := (bk_2_4.drop 26)) 5 [some (.ref 74), some (.int x1), some (.int x2), some (.int q1), some (.int q2), some (.int (q2 * (q1 + (1 : Int32))))] [] (cw κ cs I J W) h (fun _ => rfl) (fun _ e => m_126 (d := d + 1) e) fun q4 h =>
  tt_J (L1 := bk_2_6) 0 [some (.ref 74), some (.int x1), some (.int x2), some (.int q1), some (.int q2), some (.int (q2 * (q1 + (1 : Int32))))] [.int q4] (cw κ cs I J W) (fun _ => rfl) (tt_F [none, none, none, none, none, none] trivial (tl_2_6  q4 I _ h))) (fun h =>
  tt_C (L1 := (bk_2_5.drop 6)) 6 [some (.ref 74), some (.int x1), some (.int x2), some (.int q1), some (.int q2), some (.int (q2 * (q1 + (1 : Int32))))] [.int q2] (cw κ cs I J W) h (fun _ => rfl) (fun _ e => m_126 (d := d + 1) e) fun q3 h =>
  tt_J (L1 := bk_2_6) 0 [some (.ref 74), some (.int x1), some (.int x2), some (.int q1), some (.int q2), some (.int (q2 * (q1 + (1 : Int32))))] [.int (q2 + q3)] (cw κ cs I J W) (fun _ => rfl) (tt_F [none, none, none, none, none, none] trivial (tl_2_6  (q2 + q3) I _ h))))))
/- 9 -/
def f_9 (x1 : Int32) (x2 : Int32) (I : (Nat → Nat → Int32)) : Option Int32 :=
  (some (atf (I 77) 18 ((x1 * (6 : Int32)) + x2)))
theorem m_9 {d : Nat} {κ : KT} {cs : Nat × Nat} {J : Nat → Nat → Int64} {W : Nat} {x1 : Int32} {x2 : Int32} {I : (Nat → Nat → Int32)} {r : Int32} (h : f_9 x1 x2 I = some r) : tm (d + 1) 9 [.ref 74, .int x1, .int x2] (cw κ cs I J W) (.inl (some (.int r))) (cw κ cs I J W) :=
  tm_of me_9 rfl (Nat.le_of_ble_eq_true rfl) (
  tt_K (L1 := (bk_9_0.drop 8)) 8 [some (.ref 74), some (.int x1), some (.int x2)] [] (cw κ cs I J W) (fun _ => rfl) (m_at 77 18 ((x1 * (6 : Int32)) + x2) (Nat.le_of_ble_eq_true rfl) rfl)
  (tt_R 1 (fun r => (.inl (some (.int r)))) (fun r => (cw κ cs I J W)) h (fun _ => rfl)))
/- 1 -/
def bd_1_2 (c1 : Int32 → Int32 → (Nat → Nat → Int32) → Option (Nat → Nat → Int32)) (c2 : Int32 → Int32 → Int32 → (Nat → Nat → Int32) → Option (Nat → Nat → Int32)) (x1 : Int32) (x3 : Int32) (x4 : Int32) (I : (Nat → Nat → Int32)) : Option (Nat → Nat → Int32) :=
  (if x4 < x1 then ((f_2 x3 x4 I).bind fun q4 => ((f_9 x3 q4 I).bind fun q5 => (let I6 := putf I 75 180 ((x3 * (60 : Int32)) + x4) q4
  (let I7 := putf I6 76 180 ((x3 * (60 : Int32)) + x4) q5
  (let I8 := putf I7 77 18 ((x3 * (6 : Int32)) + q4) (q5 + (1 : Int32))
  (c2 x1 x3 (x4 + (1 : Int32)) I8)))))) else (c1 x1 (x3 + (1 : Int32)) I))
def lb_1_2 (c1 : Int32 → Int32 → (Nat → Nat → Int32) → Option (Nat → Nat → Int32)) : Int32 → Int32 → Int32 → (Nat → Nat → Int32) → Option (Nat → Nat → Int32) := fx (fun _ _ _ _ => none) (bd_1_2 c1) FU
def bd_1_1 (c1 : Int32 → Int32 → (Nat → Nat → Int32) → Option (Nat → Nat → Int32)) (x1 : Int32) (x3 : Int32) (I : (Nat → Nat → Int32)) : Option (Nat → Nat → Int32) :=
  (if x3 < (3 : Int32) then (lb_1_2 c1 x1 x3 (0 : Int32) I) else (some I))
def lb_1_1 : Int32 → Int32 → (Nat → Nat → Int32) → Option (Nat → Nat → Int32) := fx (fun _ _ _ => none) (bd_1_1 ) FU
def f_1 (x1 : Int32) (x2 : Int32) (I : (Nat → Nat → Int32)) : Option (Nat → Nat → Int32) :=
  (let I1 := up I 74 4 x1
  (let I2 := up I1 74 5 x2
  (let I3 := filf I2 77 18 (0 : Int32)
  (lb_1_1  x1 (0 : Int32) I3))))
theorem tb_1_2 {d : Nat} {κ : KT} {cs : Nat × Nat} {J : Nat → Nat → Int64} {W : Nat} (c1 : Int32 → Int32 → (Nat → Nat → Int32) → Option (Nat → Nat → Int32)) (k1 : ∀ (x1 : Int32) (x3 : Int32) (I : (Nat → Nat → Int32)) (r : (Nat → Nat → Int32)), c1 x1 x3 I = some r → tt (d + 3) me_1 bk_1_1 [some (.ref 74), some (.int x1), none, some (.int x3), none, none, none] [] (cw κ cs I J W) (.inl none) (cw κ cs r J W)) (c2 : Int32 → Int32 → Int32 → (Nat → Nat → Int32) → Option (Nat → Nat → Int32)) (k2 : ∀ (x1 : Int32) (x3 : Int32) (x4 : Int32) (I : (Nat → Nat → Int32)) (r : (Nat → Nat → Int32)), c2 x1 x3 x4 I = some r → tt (d + 3) me_1 bk_1_2 [some (.ref 74), some (.int x1), none, some (.int x3), some (.int x4), none, none] [] (cw κ cs I J W) (.inl none) (cw κ cs r J W)) (x1 : Int32) (x3 : Int32) (x4 : Int32) (I : (Nat → Nat → Int32)) (r : (Nat → Nat → Int32)) (h : bd_1_2 c1 c2 x1 x3 x4 I = some r) : tt (d + 3) me_1 bk_1_2 [some (.ref 74), some (.int x1), none, some (.int x3), some (.int x4), none, none] [] (cw κ cs I J W) (.inl none) (cw κ cs r J W) :=
  tt_I (L1 := (bk_1_2.drop 3)) (L2 := bk_1_3) 3 [some (.ref 74), some (.int x1), none, some (.int x3), some (.int x4), none, none] [] (cw κ cs I J W) h (fun _ => rfl) (fun h =>
  tt_C (L1 := (bk_1_2.drop 7)) 4 [some (.ref 74), some (.int x1), none, some (.int x3), some (.int x4), none, none] [] (cw κ cs I J W) h (fun _ => rfl) (fun _ e => m_2 (d := d) e) fun q4 h =>
  tt_C (L1 := (bk_1_2.drop 12)) 5 [some (.ref 74), some (.int x1), none, some (.int x3), some (.int x4), some (.int q4), none] [] (cw κ cs I J W) h (fun _ => rfl) (fun _ e => m_9 (d := d + 1) e) fun q5 h =>
  let I6 := putf I 75 180 ((x3 * (60 : Int32)) + x4) q4
  tt_K (L1 := (bk_1_2.drop 22)) 10 [some (.ref 74), some (.int x1), none, some (.int x3), some (.int x4), some (.int q4), some (.int q5)] [] (cw κ cs I J W) (fun _ => rfl) (m_put 75 180 ((x3 * (60 : Int32)) + x4) q4 (Nat.le_of_ble_eq_true rfl) rfl (Nat.le_of_ble_eq_true rfl))
  (let I7 := putf I6 76 180 ((x3 * (60 : Int32)) + x4) q5
  tt_K (L1 := (bk_1_2.drop 31)) 9 [some (.ref 74), some (.int x1), none, some (.int x3), some (.int x4), some (.int q4), some (.int q5)] [] (cw κ cs I6 J W) (fun _ => rfl) (m_put 76 180 ((x3 * (60 : Int32)) + x4) q5 (Nat.le_of_ble_eq_true rfl) rfl (Nat.le_of_ble_eq_true rfl))
  (let I8 := putf I7 77 18 ((x3 * (6 : Int32)) + q4) (q5 + (1 : Int32))
  tt_K (L1 := (bk_1_2.drop 42)) 11 [some (.ref 74), some (.int x1), none, some (.int x3), some (.int x4), some (.int q4), some (.int q5)] [] (cw κ cs I7 J W) (fun _ => rfl) (m_put 77 18 ((x3 * (6 : Int32)) + q4) (q5 + (1 : Int32)) (Nat.le_of_ble_eq_true rfl) rfl (Nat.le_of_ble_eq_true rfl))
  (tt_J (L1 := bk_1_2) 1 [some (.ref 74), some (.int x1), none, some (.int x3), some (.int (x4 + (1 : Int32))), some (.int q4), some (.int q5)] [] (cw κ cs I8 J W) (fun _ => rfl) (tt_F [some (.ref 74), some (.int x1), none, some (.int x3), some (.int (x4 + (1 : Int32))), none, none] (And.intro rfl (And.intro rfl (And.intro rfl (And.intro rfl trivial)))) (k2 x1 x3 (x4 + (1 : Int32)) I8 _ h)))))) (fun h =>
  tt_J (L1 := bk_1_1) 1 [some (.ref 74), some (.int x1), none, some (.int (x3 + (1 : Int32))), some (.int x4), none, none] [] (cw κ cs I J W) (fun _ => rfl) (tt_F [some (.ref 74), some (.int x1), none, some (.int (x3 + (1 : Int32))), none, none, none] (And.intro rfl (And.intro rfl (And.intro rfl trivial))) (k1 x1 (x3 + (1 : Int32)) I _ h)))
theorem tn_1_2 {d : Nat} {κ : KT} {cs : Nat × Nat} {J : Nat → Nat → Int64} {W : Nat} (c1 : Int32 → Int32 → (Nat → Nat → Int32) → Option (Nat → Nat → Int32)) (k1 : ∀ (x1 : Int32) (x3 : Int32) (I : (Nat → Nat → Int32)) (r : (Nat → Nat → Int32)), c1 x1 x3 I = some r → tt (d + 3) me_1 bk_1_1 [some (.ref 74), some (.int x1), none, some (.int x3), none, none, none] [] (cw κ cs I J W) (.inl none) (cw κ cs r J W)) : ∀ (n : Nat) (x1 : Int32) (x3 : Int32) (x4 : Int32) (I : (Nat → Nat → Int32)) (r : (Nat → Nat → Int32)), fx (fun _ _ _ _ => none) (bd_1_2 c1) n x1 x3 x4 I = some r → tt (d + 3) me_1 bk_1_2 [some (.ref 74), some (.int x1), none, some (.int x3), some (.int x4), none, none] [] (cw κ cs I J W) (.inl none) (cw κ cs r J W)
  | 0 => fun _ _ _ _ _ h => nomatch h
  | n + 1 => fun x1 x3 x4 I r h => tb_1_2 c1 k1 (fx _ (bd_1_2 c1) n) (tn_1_2 c1 k1 n) x1 x3 x4 I r h
theorem tl_1_2 {d : Nat} {κ : KT} {cs : Nat × Nat} {J : Nat → Nat → Int64} {W : Nat} (c1 : Int32 → Int32 → (Nat → Nat → Int32) → Option (Nat → Nat → Int32)) (k1 : ∀ (x1 : Int32) (x3 : Int32) (I : (Nat → Nat → Int32)) (r : (Nat → Nat → Int32)), c1 x1 x3 I = some r → tt (d + 3) me_1 bk_1_1 [some (.ref 74), some (.int x1), none, some (.int x3), none, none, none] [] (cw κ cs I J W) (.inl none) (cw κ cs r J W)) (x1 : Int32) (x3 : Int32) (x4 : Int32) (I : (Nat → Nat → Int32)) (r : (Nat → Nat → Int32)) (h : lb_1_2 c1 x1 x3 x4 I = some r) : tt (d + 3) me_1 bk_1_2 [some (.ref 74), some (.int x1), none, some (.int x3), some (.int x4), none, none] [] (cw κ cs I J W) (.inl none) (cw κ cs r J W) := tn_1_2 c1 k1 FU x1 x3 x4 I r h
theorem tb_1_1 {d : Nat} {κ : KT} {cs : Nat × Nat} {J : Nat → Nat → Int64} {W : Nat} (c1 : Int32 → Int32 → (Nat → Nat → Int32) → Option (Nat → Nat → Int32)) (k1 : ∀ (x1 : Int32) (x3 : Int32) (I : (Nat → Nat → Int32)) (r : (Nat → Nat → Int32)), c1 x1 x3 I = some r → tt (d + 3) me_1 bk_1_1 [some (.ref 74), some (.int x1), none, some (.int x3), none, none, none] [] (cw κ cs I J W) (.inl none) (cw κ cs r J W)) (x1 : Int32) (x3 : Int32) (I : (Nat → Nat → Int32)) (r : (Nat → Nat → Int32)) (h : bd_1_1  c1 x1 x3 I = some r) : tt (d + 3) me_1 bk_1_1 [some (.ref 74), some (.int x1), none, some (.int x3), none, none, none] [] (cw κ cs I J W) (.inl none) (cw κ cs r J W) :=
  tt_I (L1 := (bk_1_1.drop 3)) (L2 := bk_1_4) 3 [some (.ref 74), some (.int x1), none, some (.int x3), none, none, none] [] (cw κ cs I J W) h (fun _ => rfl) (fun h =>
  tt_J (L1 := bk_1_2) 1 [some (.ref 74), some (.int x1), none, some (.int x3), some (.int (0 : Int32)), none, none] [] (cw κ cs I J W) (fun _ => rfl) (tt_F [some (.ref 74), some (.int x1), none, some (.int x3), some (.int (0 : Int32)), none, none] (And.intro rfl (And.intro rfl (And.intro rfl (And.intro rfl trivial)))) (tl_1_2 c1 k1 x1 x3 (0 : Int32) I _ h))) (fun h =>
  tt_R 1 (fun r => (.inl none)) (fun r => (cw κ cs r J W)) h (fun _ => rfl))
theorem tn_1_1 {d : Nat} {κ : KT} {cs : Nat × Nat} {J : Nat → Nat → Int64} {W : Nat} : ∀ (n : Nat) (x1 : Int32) (x3 : Int32) (I : (Nat → Nat → Int32)) (r : (Nat → Nat → Int32)), fx (fun _ _ _ => none) (bd_1_1 ) n x1 x3 I = some r → tt (d + 3) me_1 bk_1_1 [some (.ref 74), some (.int x1), none, some (.int x3), none, none, none] [] (cw κ cs I J W) (.inl none) (cw κ cs r J W)
  | 0 => fun _ _ _ _ h => nomatch h
  | n + 1 => fun x1 x3 I r h => tb_1_1  (fx _ (bd_1_1 ) n) (tn_1_1  n) x1 x3 I r h
theorem tl_1_1 {d : Nat} {κ : KT} {cs : Nat × Nat} {J : Nat → Nat → Int64} {W : Nat} (x1 : Int32) (x3 : Int32) (I : (Nat → Nat → Int32)) (r : (Nat → Nat → Int32)) (h : lb_1_1  x1 x3 I = some r) : tt (d + 3) me_1 bk_1_1 [some (.ref 74), some (.int x1), none, some (.int x3), none, none, none] [] (cw κ cs I J W) (.inl none) (cw κ cs r J W) := tn_1_1  FU x1 x3 I r h
theorem m_1 {d : Nat} {κ : KT} {cs : Nat × Nat} {J : Nat → Nat → Int64} {W : Nat} {x1 : Int32} {x2 : Int32} {I : (Nat → Nat → Int32)} {r : (Nat → Nat → Int32)} (h : f_1 x1 x2 I = some r) : tm (d + 3) 1 [.ref 74, .int x1, .int x2] (cw κ cs I J W) (.inl none) (cw κ cs r J W) :=
  tm_of me_1 rfl (Nat.le_of_ble_eq_true rfl) (
  let I1 := up I 74 4 x1
  let I2 := up I1 74 5 x2
  tt_J (L1 := (bk_1_0.drop 6)) 5 [some (.ref 74), some (.int x1), some (.int x2), none, none, none, none] [] (cw κ cs I2 J W) (fun _ => rfl) (
  let I3 := filf I2 77 18 (0 : Int32)
  tt_K (L1 := (bk_1_0.drop 10)) 4 [some (.ref 74), some (.int x1), some (.int x2), none, none, none, none] [] (cw κ cs I2 J W) (fun _ => rfl) (m_fill 77 18 (0 : Int32) (Nat.le_of_ble_eq_true rfl) (fun _ => rfl) (Nat.le_of_ble_eq_true rfl))
  (tt_J (L1 := bk_1_1) 1 [some (.ref 74), some (.int x1), some (.int x2), some (.int (0 : Int32)), none, none, none] [] (cw κ cs I3 J W) (fun _ => rfl) (tt_F [some (.ref 74), some (.int x1), none, some (.int (0 : Int32)), none, none, none] (And.intro rfl (And.intro rfl (And.intro rfl trivial))) (tl_1_1  x1 (0 : Int32) I3 _ h)))))
/- 3 -/
def f_3 (x1 : Int32) (x2 : Int32) (I : (Nat → Nat → Int32)) : Option (Nat → Nat → Int32) :=
  (let I1 := up I 74 6 x1
  (let I2 := up I1 74 7 x2
  (some I2)))
theorem m_3 {d : Nat} {κ : KT} {cs : Nat × Nat} {J : Nat → Nat → Int64} {W : Nat} {x1 : Int32} {x2 : Int32} {I : (Nat → Nat → Int32)} {r : (Nat → Nat → Int32)} (h : f_3 x1 x2 I = some r) : tm d 3 [.ref 74, .int x1, .int x2] (cw κ cs I J W) (.inl none) (cw κ cs r J W) :=
  tm_of me_3 rfl (Nat.le_of_ble_eq_true rfl) (
  let I1 := up I 74 6 x1
  let I2 := up I1 74 7 x2
  tt_J (L1 := (bk_3_0.drop 6)) 5 [some (.ref 74), some (.int x1), some (.int x2)] [] (cw κ cs I2 J W) (fun _ => rfl) (
  tt_R 1 (fun r => (.inl none)) (fun r => (cw κ cs r J W)) h (fun _ => rfl)))
/- 6 -/
def f_6 (x1 : Int32) (x2 : Int32) (I : (Nat → Nat → Int32)) : Option (Int32 × (Nat → Nat → Int32)) :=
  (let I1 := putf I 78 6 x2 x1
  (some ((x1 + (atf (I1 77) 18 (((I1 74 6) * (6 : Int32)) + x2))), I1)))
theorem m_6 {d : Nat} {κ : KT} {cs : Nat × Nat} {J : Nat → Nat → Int64} {W : Nat} {x1 : Int32} {x2 : Int32} {I : (Nat → Nat → Int32)} {r : (Int32 × (Nat → Nat → Int32))} (h : f_6 x1 x2 I = some r) : tm (d + 1) 6 [.ref 74, .int x1, .int x2] (cw κ cs I J W) (.inl (some (.int r.1))) (cw κ cs r.2 J W) :=
  tm_of me_6 rfl (Nat.le_of_ble_eq_true rfl) (
  let I1 := putf I 78 6 x2 x1
  tt_K (L1 := (bk_6_0.drop 5)) 5 [some (.ref 74), some (.int x1), some (.int x2)] [] (cw κ cs I J W) (fun _ => rfl) (m_put 78 6 x2 x1 (Nat.le_of_ble_eq_true rfl) rfl (Nat.le_of_ble_eq_true rfl))
  (tt_K (L1 := (bk_6_0.drop 15)) 10 [some (.ref 74), some (.int x1), some (.int x2)] [.int x1] (cw κ cs I1 J W) (fun _ => rfl) (m_at 77 18 (((I1 74 6) * (6 : Int32)) + x2) (Nat.le_of_ble_eq_true rfl) rfl)
  (tt_R 2 (fun r => (.inl (some (.int r.1)))) (fun r => (cw κ cs r.2 J W)) h (fun _ => rfl))))
/- 5 -/
def lb_5_2 (s0 : Int32) (I : (Nat → Nat → Int32)) : Option (Int32 × (Nat → Nat → Int32)) :=
  (some (s0, I))
def f_5 (x1 : Int32) (x2 : Int32) (x3 : Int32) (I : (Nat → Nat → Int32)) : Option (Int32 × (Nat → Nat → Int32)) :=
  ((f_6 x1 x2 I).bind fun q1 => (if x2 = x3 then (lb_5_2  q1.1 q1.2) else ((f_6 q1.1 x3 q1.2).bind fun q2 => (lb_5_2  q2.1 q2.2))))
theorem tl_5_2 {d : Nat} {κ : KT} {cs : Nat × Nat} {J : Nat → Nat → Int64} {W : Nat} (s0 : Int32) (I : (Nat → Nat → Int32)) (r : (Int32 × (Nat → Nat → Int32))) (h : lb_5_2  s0 I = some r) : tt (d + 2) me_5 bk_5_2 [none, none, none, none, none] [.int s0] (cw κ cs I J W) (.inl (some (.int r.1))) (cw κ cs r.2 J W) :=
  tt_R 1 (fun r => (.inl (some (.int r.1)))) (fun r => (cw κ cs r.2 J W)) h (fun _ => rfl)
theorem m_5 {d : Nat} {κ : KT} {cs : Nat × Nat} {J : Nat → Nat → Int64} {W : Nat} {x1 : Int32} {x2 : Int32} {x3 : Int32} {I : (Nat → Nat → Int32)} {r : (Int32 × (Nat → Nat → Int32))} (h : f_5 x1 x2 x3 I = some r) : tm (d + 2) 5 [.ref 74, .int x1, .int x2, .int x3] (cw κ cs I J W) (.inl (some (.int r.1))) (cw κ cs r.2 J W) :=
  tm_of me_5 rfl (Nat.le_of_ble_eq_true rfl) (
  tt_C (L1 := (bk_5_0.drop 4)) 4 [some (.ref 74), some (.int x1), some (.int x2), some (.int x3), none] [] (cw κ cs I J W) h (fun _ => rfl) (fun _ e => m_6 (d := d) e) fun q1 h =>
  tt_I (L1 := (bk_5_0.drop 8)) (L2 := bk_5_1) 4 [some (.ref 74), some (.int x1), some (.int x2), some (.int x3), some (.int q1.1)] [] (cw κ cs q1.2 J W) h (fun _ => rfl) (fun h =>
  tt_J (L1 := bk_5_2) 1 [some (.ref 74), some (.int x1), some (.int x2), some (.int x3), some (.int q1.1)] [.int q1.1] (cw κ cs q1.2 J W) (fun _ => rfl) (tt_F [none, none, none, none, none] trivial (tl_5_2  q1.1 q1.2 _ h))) (fun h =>
  tt_C (L1 := bk_5_2) 4 [some (.ref 74), some (.int x1), some (.int x2), some (.int x3), some (.int q1.1)] [] (cw κ cs q1.2 J W) h (fun _ => rfl) (fun _ e => m_6 (d := d) e) fun q2 h =>
  tt_F [none, none, none, none, none] trivial (tl_5_2  q2.1 q2.2 _ h)))
/- 4 -/
def lb_4_5 (I : (Nat → Nat → Int32)) : Option (Nat → Nat → Int32) :=
  (some I)
def lb_4_3 (c1 : Int32 → Int32 → Int32 → Int32 → Int32 → Int32 → (Nat → Nat → Int32) → Option (Nat → Nat → Int32)) (x1 : Int32) (x2 : Int32) (x3 : Int32) (x4 : Int32) (x5 : Int32) (x6 : Int32) (I : (Nat → Nat → Int32)) : Option (Nat → Nat → Int32) :=
  (c1 x1 x2 x3 x4 x5 (x6 + (1 : Int32)) I)
def lb_4_2 (c1 : Int32 → Int32 → Int32 → Int32 → Int32 → Int32 → (Nat → Nat → Int32) → Option (Nat → Nat → Int32)) (x1 : Int32) (x2 : Int32) (x3 : Int32) (x4 : Int32) (x5 : Int32) (x6 : Int32) (I : (Nat → Nat → Int32)) : Option (Nat → Nat → Int32) :=
  ((f_6 x4 x6 I).bind fun q2 => (lb_4_3 c1 x1 x2 x3 q2.1 (x5 + (1 : Int32)) x6 q2.2))
def bd_4_1 (c1 : Int32 → Int32 → Int32 → Int32 → Int32 → Int32 → (Nat → Nat → Int32) → Option (Nat → Nat → Int32)) (x1 : Int32) (x2 : Int32) (x3 : Int32) (x4 : Int32) (x5 : Int32) (x6 : Int32) (I : (Nat → Nat → Int32)) : Option (Nat → Nat → Int32) :=
  (if x6 < (I 74 5) then (if x6 = x2 then (lb_4_3 c1 x1 x2 x3 x4 x5 x6 I) else (if x6 = x3 then (lb_4_3 c1 x1 x2 x3 x4 x5 x6 I) else (if x5 = x1 then ((f_5 x4 x2 x3 I).bind fun q3 => (lb_4_2 c1 x1 x2 x3 q3.1 x5 x6 q3.2)) else (lb_4_2 c1 x1 x2 x3 x4 x5 x6 I)))) else (if x1 < x5 then (lb_4_5   I) else ((f_5 x4 x2 x3 I).bind fun q1 => (lb_4_5   q1.2))))
def lb_4_1 : Int32 → Int32 → Int32 → Int32 → Int32 → Int32 → (Nat → Nat → Int32) → Option (Nat → Nat → Int32) := fx (fun _ _ _ _ _ _ _ => none) (bd_4_1 ) FU
def f_4 (x1 : Int32) (x2 : Int32) (x3 : Int32) (I : (Nat → Nat → Int32)) : Option (Nat → Nat → Int32) :=
  (lb_4_1  x1 x2 x3 (0 : Int32) (0 : Int32) (0 : Int32) I)
theorem tl_4_5 {d : Nat} {κ : KT} {cs : Nat × Nat} {J : Nat → Nat → Int64} {W : Nat} (I : (Nat → Nat → Int32)) (r : (Nat → Nat → Int32)) (h : lb_4_5   I = some r) : tt (d + 3) me_4 bk_4_5 [none, none, none, none, none, none, none] [] (cw κ cs I J W) (.inl none) (cw κ cs r J W) :=
  tt_R 1 (fun r => (.inl none)) (fun r => (cw κ cs r J W)) h (fun _ => rfl)
theorem tl_4_3 {d : Nat} {κ : KT} {cs : Nat × Nat} {J : Nat → Nat → Int64} {W : Nat} (c1 : Int32 → Int32 → Int32 → Int32 → Int32 → Int32 → (Nat → Nat → Int32) → Option (Nat → Nat → Int32)) (k1 : ∀ (x1 : Int32) (x2 : Int32) (x3 : Int32) (x4 : Int32) (x5 : Int32) (x6 : Int32) (I : (Nat → Nat → Int32)) (r : (Nat → Nat → Int32)), c1 x1 x2 x3 x4 x5 x6 I = some r → tt (d + 3) me_4 bk_4_1 [some (.ref 74), some (.int x1), some (.int x2), some (.int x3), some (.int x4), some (.int x5), some (.int x6)] [] (cw κ cs I J W) (.inl none) (cw κ cs r J W)) (x1 : Int32) (x2 : Int32) (x3 : Int32) (x4 : Int32) (x5 : Int32) (x6 : Int32) (I : (Nat → Nat → Int32)) (r : (Nat → Nat → Int32)) (h : lb_4_3 c1 x1 x2 x3 x4 x5 x6 I = some r) : tt (d + 3) me_4 bk_4_3 [some (.ref 74), some (.int x1), some (.int x2), some (.int x3), some (.int x4), some (.int x5), some (.int x6)] [] (cw κ cs I J W) (.inl none) (cw κ cs r J W) :=
  tt_J (L1 := bk_4_1) 1 [some (.ref 74), some (.int x1), some (.int x2), some (.int x3), some (.int x4), some (.int x5), some (.int (x6 + (1 : Int32)))] [] (cw κ cs I J W) (fun _ => rfl) (tt_F [some (.ref 74), some (.int x1), some (.int x2), some (.int x3), some (.int x4), some (.int x5), some (.int (x6 + (1 : Int32)))] (And.intro rfl (And.intro rfl (And.intro rfl (And.intro rfl (And.intro rfl (And.intro rfl (And.intro rfl trivial))))))) (k1 x1 x2 x3 x4 x5 (x6 + (1 : Int32)) I _ h))
theorem tl_4_2 {d : Nat} {κ : KT} {cs : Nat × Nat} {J : Nat → Nat → Int64} {W : Nat} (c1 : Int32 → Int32 → Int32 → Int32 → Int32 → Int32 → (Nat → Nat → Int32) → Option (Nat → Nat → Int32)) (k1 : ∀ (x1 : Int32) (x2 : Int32) (x3 : Int32) (x4 : Int32) (x5 : Int32) (x6 : Int32) (I : (Nat → Nat → Int32)) (r : (Nat → Nat → Int32)), c1 x1 x2 x3 x4 x5 x6 I = some r → tt (d + 3) me_4 bk_4_1 [some (.ref 74), some (.int x1), some (.int x2), some (.int x3), some (.int x4), some (.int x5), some (.int x6)] [] (cw κ cs I J W) (.inl none) (cw κ cs r J W)) (x1 : Int32) (x2 : Int32) (x3 : Int32) (x4 : Int32) (x5 : Int32) (x6 : Int32) (I : (Nat → Nat → Int32)) (r : (Nat → Nat → Int32)) (h : lb_4_2 c1 x1 x2 x3 x4 x5 x6 I = some r) : tt (d + 3) me_4 bk_4_2 [some (.ref 74), some (.int x1), some (.int x2), some (.int x3), some (.int x4), some (.int x5), some (.int x6)] [] (cw κ cs I J W) (.inl none) (cw κ cs r J W) :=
  tt_C (L1 := (bk_4_2.drop 4)) 4 [some (.ref 74), some (.int x1), some (.int x2), some (.int x3), some (.int x4), some (.int x5), some (.int x6)] [] (cw κ cs I J W) h (fun _ => rfl) (fun _ e => m_6 (d := d + 1) e) fun q2 h =>
  tt_J (L1 := bk_4_3) 1 [some (.ref 74), some (.int x1), some (.int x2), some (.int x3), some (.int q2.1), some (.int (x5 + (1 : Int32))), some (.int x6)] [] (cw κ cs q2.2 J W) (fun _ => rfl) (tt_F [some (.ref 74), some (.int x1), some (.int x2), some (.int x3), some (.int q2.1), some (.int (x5 + (1 : Int32))), some (.int x6)] (And.intro rfl (And.intro rfl (And.intro rfl (And.intro rfl (And.intro rfl (And.intro rfl (And.intro rfl trivial))))))) (tl_4_3 c1 k1 x1 x2 x3 q2.1 (x5 + (1 : Int32)) x6 q2.2 _ h))
theorem tb_4_1 {d : Nat} {κ : KT} {cs : Nat × Nat} {J : Nat → Nat → Int64} {W : Nat} (c1 : Int32 → Int32 → Int32 → Int32 → Int32 → Int32 → (Nat → Nat → Int32) → Option (Nat → Nat → Int32)) (k1 : ∀ (x1 : Int32) (x2 : Int32) (x3 : Int32) (x4 : Int32) (x5 : Int32) (x6 : Int32) (I : (Nat → Nat → Int32)) (r : (Nat → Nat → Int32)), c1 x1 x2 x3 x4 x5 x6 I = some r → tt (d + 3) me_4 bk_4_1 [some (.ref 74), some (.int x1), some (.int x2), some (.int x3), some (.int x4), some (.int x5), some (.int x6)] [] (cw κ cs I J W) (.inl none) (cw κ cs r J W)) (x1 : Int32) (x2 : Int32) (x3 : Int32) (x4 : Int32) (x5 : Int32) (x6 : Int32) (I : (Nat → Nat → Int32)) (r : (Nat → Nat → Int32)) (h : bd_4_1  c1 x1 x2 x3 x4 x5 x6 I = some r) : tt (d + 3) me_4 bk_4_1 [some (.ref 74), some (.int x1), some (.int x2), some (.int x3), some (.int x4), some (.int x5), some (.int x6)] [] (cw κ cs I J W) (.inl none) (cw κ cs r J W) :=
  tt_I (L1 := (bk_4_1.drop 4)) (L2 := bk_4_4) 4 [some (.ref 74), some (.int x1), some (.int x2), some (.int x3), some (.int x4), some (.int x5), some (.int x6)] [] (cw κ cs I J W) h (fun _ => rfl) (fun h =>
  tt_I (L1 := bk_4_3) (L2 := (bk_4_1.drop 7)) 3 [some (.ref 74), some (.int x1), some (.int x2), some (.int x3), some (.int x4), some (.int x5), some (.int x6)] [] (cw κ cs I J W) h (fun _ => rfl) (fun h =>
  tt_F [some (.ref 74), some (.int x1), some (.int x2), some (.int x3), some (.int x4), some (.int x5), some (.int x6)] (And.intro rfl (And.intro rfl (And.intro rfl (And.intro rfl (And.intro rfl (And.intro rfl (And.intro rfl trivial))))))) (tl_4_3 c1 k1 x1 x2 x3 x4 x5 x6 I _ h)) (fun h =>
  tt_I (L1 := bk_4_3) (L2 := (bk_4_1.drop 10)) 3 [some (.ref 74), some (.int x1), some (.int x2), some (.int x3), some (.int x4), some (.int x5), some (.int x6)] [] (cw κ cs I J W) h (fun _ => rfl) (fun h =>
  tt_F [some (.ref 74), some (.int x1), some (.int x2), some (.int x3), some (.int x4), some (.int x5), some (.int x6)] (And.intro rfl (And.intro rfl (And.intro rfl (And.intro rfl (And.intro rfl (And.intro rfl (And.intro rfl trivial))))))) (tl_4_3 c1 k1 x1 x2 x3 x4 x5 x6 I _ h)) (fun h =>
  tt_I (L1 := (bk_4_1.drop 13)) (L2 := bk_4_2) 3 [some (.ref 74), some (.int x1), some (.int x2), some (.int x3), some (.int x4), some (.int x5), some (.int x6)] [] (cw κ cs I J W) h (fun _ => rfl) (fun h =>
  tt_C (L1 := (bk_4_1.drop 18)) 5 [some (.ref 74), some (.int x1), some (.int x2), some (.int x3), some (.int x4), some (.int x5), some (.int x6)] [] (cw κ cs I J W) h (fun _ => rfl) (fun _ e => m_5 (d := d) e) fun q3 h =>
  tt_J (L1 := bk_4_2) 0 [some (.ref 74), some (.int x1), some (.int x2), some (.int x3), some (.int q3.1), some (.int x5), some (.int x6)] [] (cw κ cs q3.2 J W) (fun _ => rfl) (tt_F [some (.ref 74), some (.int x1), some (.int x2), some (.int x3), some (.int q3.1), some (.int x5), some (.int x6)] (And.intro rfl (And.intro rfl (And.intro rfl (And.intro rfl (And.intro rfl (And.intro rfl (And.intro rfl trivial))))))) (tl_4_2 c1 k1 x1 x2 x3 q3.1 x5 x6 q3.2 _ h))) (fun h =>
  tt_F [some (.ref 74), some (.int x1), some (.int x2), some (.int x3), some (.int x4), some (.int x5), some (.int x6)] (And.intro rfl (And.intro rfl (And.intro rfl (And.intro rfl (And.intro rfl (And.intro rfl (And.intro rfl trivial))))))) (tl_4_2 c1 k1 x1 x2 x3 x4 x5 x6 I _ h))))) (fun h =>
  tt_I (L1 := bk_4_5) (L2 := (bk_4_4.drop 3)) 3 [some (.ref 74), some (.int x1), some (.int x2), some (.int x3), some (.int x4), some (.int x5), some (.int x6)] [] (cw κ cs I J W) h (fun _ => rfl) (fun h =>
  tt_F [none, none, none, none, none, none, none] trivial (tl_4_5   I _ h)) (fun h =>
  tt_C (L1 := (bk_4_4.drop 8)) 5 [some (.ref 74), some (.int x1), some (.int x2), some (.int x3), some (.int x4), some (.int x5), some (.int x6)] [] (cw κ cs I J W) h (fun _ => rfl) (fun _ e => m_5 (d := d) e) fun q1 h =>
  tt_J (L1 := bk_4_5) 0 [some (.ref 74), some (.int x1), some (.int x2), some (.int x3), some (.int x4), some (.int x5), some (.int x6)] [] (cw κ cs q1.2 J W) (fun _ => rfl) (tt_F [none, none, none, none, none, none, none] trivial (tl_4_5   q1.2 _ h))))
theorem tn_4_1 {d : Nat} {κ : KT} {cs : Nat × Nat} {J : Nat → Nat → Int64} {W : Nat} : ∀ (n : Nat) (x1 : Int32) (x2 : Int32) (x3 : Int32) (x4 : Int32) (x5 : Int32) (x6 : Int32) (I : (Nat → Nat → Int32)) (r : (Nat → Nat → Int32)), fx (fun _ _ _ _ _ _ _ => none) (bd_4_1 ) n x1 x2 x3 x4 x5 x6 I = some r → tt (d + 3) me_4 bk_4_1 [some (.ref 74), some (.int x1), some (.int x2), some (.int x3), some (.int x4), some (.int x5), some (.int x6)] [] (cw κ cs I J W) (.inl none) (cw κ cs r J W)
  | 0 => fun _ _ _ _ _ _ _ _ h => nomatch h
  | n + 1 => fun x1 x2 x3 x4 x5 x6 I r h => tb_4_1  (fx _ (bd_4_1 ) n) (tn_4_1  n) x1 x2 x3 x4 x5 x6 I r h
theorem tl_4_1 {d : Nat} {κ : KT} {cs : Nat × Nat} {J : Nat → Nat → Int64} {W : Nat} (x1 : Int32) (x2 : Int32) (x3 : Int32) (x4 : Int32) (x5 : Int32) (x6 : Int32) (I : (Nat → Nat → Int32)) (r : (Nat → Nat → Int32)) (h : lb_4_1  x1 x2 x3 x4 x5 x6 I = some r) : tt (d + 3) me_4 bk_4_1 [some (.ref 74), some (.int x1), some (.int x2), some (.int x3), some (.int x4), some (.int x5), some (.int x6)] [] (cw κ cs I J W) (.inl none) (cw κ cs r J W) := tn_4_1  FU x1 x2 x3 x4 x5 x6 I r h
theorem m_4 {d : Nat} {κ : KT} {cs : Nat × Nat} {J : Nat → Nat → Int64} {W : Nat} {x1 : Int32} {x2 : Int32} {x3 : Int32} {I : (Nat → Nat → Int32)} {r : (Nat → Nat → Int32)} (h : f_4 x1 x2 x3 I = some r) : tm (d + 3) 4 [.ref 74, .int x1, .int x2, .int x3] (cw κ cs I J W) (.inl none) (cw κ cs r J W) :=
  tm_of me_4 rfl (Nat.le_of_ble_eq_true rfl) (
  tt_J (L1 := bk_4_1) 5 [some (.ref 74), some (.int x1), some (.int x2), some (.int x3), some (.int (0 : Int32)), some (.int (0 : Int32)), some (.int (0 : Int32))] [] (cw κ cs I J W) (fun _ => rfl) (tt_F [some (.ref 74), some (.int x1), some (.int x2), some (.int x3), some (.int (0 : Int32)), some (.int (0 : Int32)), some (.int (0 : Int32))] (And.intro rfl (And.intro rfl (And.intro rfl (And.intro rfl (And.intro rfl (And.intro rfl (And.intro rfl trivial))))))) (tl_4_1  x1 x2 x3 (0 : Int32) (0 : Int32) (0 : Int32) I _ h)))
/- 7 -/
def lb_7_3 (x1 : Int32) (x3 : Int32) (I : (Nat → Nat → Int32)) : Option (Nat → Nat → Int32) :=
  (let I1 := putf I 78 6 x1 x3
  (some I1))
def lb_7_2 (c1 : Int32 → Int32 → Int32 → Int32 → Int32 → (Nat → Nat → Int32) → Option (Nat → Nat → Int32)) (x1 : Int32) (x2 : Int32) (x3 : Int32) (x4 : Int32) (x5 : Int32) (I : (Nat → Nat → Int32)) : Option (Nat → Nat → Int32) :=
  (c1 x1 x2 x3 x4 (x5 + (1 : Int32)) I)
def bd_7_1 (c1 : Int32 → Int32 → Int32 → Int32 → Int32 → (Nat → Nat → Int32) → Option (Nat → Nat → Int32)) (x1 : Int32) (x2 : Int32) (x3 : Int32) (x4 : Int32) (x5 : Int32) (I : (Nat → Nat → Int32)) : Option (Nat → Nat → Int32) :=
  (if x5 < (I 74 5) then (if x4 < x2 then (if x5 = x1 then (lb_7_2 c1 x1 x2 x3 x4 x5 I) else ((f_9 (I 74 6) x5 I).bind fun q2 => (lb_7_2 c1 x1 x2 (x3 + q2) (x4 + (1 : Int32)) x5 I))) else (lb_7_3  x1 x3 I)) else (lb_7_3  x1 x3 I))
def lb_7_1 : Int32 → Int32 → Int32 → Int32 → Int32 → (Nat → Nat → Int32) → Option (Nat → Nat → Int32) := fx (fun _ _ _ _ _ _ => none) (bd_7_1 ) FU
def f_7 (x1 : Int32) (x2 : Int32) (I : (Nat → Nat → Int32)) : Option (Nat → Nat → Int32) :=
  (lb_7_1  x1 x2 (0 : Int32) (0 : Int32) (0 : Int32) I)
theorem tl_7_3 {d : Nat} {κ : KT} {cs : Nat × Nat} {J : Nat → Nat → Int64} {W : Nat} (x1 : Int32) (x3 : Int32) (I : (Nat → Nat → Int32)) (r : (Nat → Nat → Int32)) (h : lb_7_3  x1 x3 I = some r) : tt (d + 2) me_7 bk_7_3 [some (.ref 74), some (.int x1), none, some (.int x3), none, none] [] (cw κ cs I J W) (.inl none) (cw κ cs r J W) :=
  let I1 := putf I 78 6 x1 x3
  tt_K (L1 := (bk_7_3.drop 5)) 5 [some (.ref 74), some (.int x1), none, some (.int x3), none, none] [] (cw κ cs I J W) (fun _ => rfl) (m_put 78 6 x1 x3 (Nat.le_of_ble_eq_true rfl) rfl (Nat.le_of_ble_eq_true rfl))
  (tt_R 1 (fun r => (.inl none)) (fun r => (cw κ cs r J W)) h (fun _ => rfl))
theorem tl_7_2 {d : Nat} {κ : KT} {cs : Nat × Nat} {J : Nat → Nat → Int64} {W : Nat} (c1 : Int32 → Int32 → Int32 → Int32 → Int32 → (Nat → Nat → Int32) → Option (Nat → Nat → Int32)) (k1 : ∀ (x1 : Int32) (x2 : Int32) (x3 : Int32) (x4 : Int32) (x5 : Int32) (I : (Nat → Nat → Int32)) (r : (Nat → Nat → Int32)), c1 x1 x2 x3 x4 x5 I = some r → tt (d + 2) me_7 bk_7_1 [some (.ref 74), some (.int x1), some (.int x2), some (.int x3), some (.int x4), some (.int x5)] [] (cw κ cs I J W) (.inl none) (cw κ cs r J W)) (x1 : Int32) (x2 : Int32) (x3 : Int32) (x4 : Int32) (x5 : Int32) (I : (Nat → Nat → Int32)) (r : (Nat → Nat → Int32)) (h : lb_7_2 c1 x1 x2 x3 x4 x5 I = some r) : tt (d + 2) me_7 bk_7_2 [some (.ref 74), some (.int x1), some (.int x2), some (.int x3), some (.int x4), some (.int x5)] [] (cw κ cs I J W) (.inl none) (cw κ cs r J W) :=
  tt_J (L1 := bk_7_1) 1 [some (.ref 74), some (.int x1), some (.int x2), some (.int x3), some (.int x4), some (.int (x5 + (1 : Int32)))] [] (cw κ cs I J W) (fun _ => rfl) (tt_F [some (.ref 74), some (.int x1), some (.int x2), some (.int x3), some (.int x4), some (.int (x5 + (1 : Int32)))] (And.intro rfl (And.intro rfl (And.intro rfl (And.intro rfl (And.intro rfl (And.intro rfl trivial)))))) (k1 x1 x2 x3 x4 (x5 + (1 : Int32)) I _ h))
theorem tb_7_1 {d : Nat} {κ : KT} {cs : Nat × Nat} {J : Nat → Nat → Int64} {W : Nat} (c1 : Int32 → Int32 → Int32 → Int32 → Int32 → (Nat → Nat → Int32) → Option (Nat → Nat → Int32)) (k1 : ∀ (x1 : Int32) (x2 : Int32) (x3 : Int32) (x4 : Int32) (x5 : Int32) (I : (Nat → Nat → Int32)) (r : (Nat → Nat → Int32)), c1 x1 x2 x3 x4 x5 I = some r → tt (d + 2) me_7 bk_7_1 [some (.ref 74), some (.int x1), some (.int x2), some (.int x3), some (.int x4), some (.int x5)] [] (cw κ cs I J W) (.inl none) (cw κ cs r J W)) (x1 : Int32) (x2 : Int32) (x3 : Int32) (x4 : Int32) (x5 : Int32) (I : (Nat → Nat → Int32)) (r : (Nat → Nat → Int32)) (h : bd_7_1  c1 x1 x2 x3 x4 x5 I = some r) : tt (d + 2) me_7 bk_7_1 [some (.ref 74), some (.int x1), some (.int x2), some (.int x3), some (.int x4), some (.int x5)] [] (cw κ cs I J W) (.inl none) (cw κ cs r J W) :=
  tt_I (L1 := (bk_7_1.drop 4)) (L2 := bk_7_3) 4 [some (.ref 74), some (.int x1), some (.int x2), some (.int x3), some (.int x4), some (.int x5)] [] (cw κ cs I J W) h (fun _ => rfl) (fun h =>
  tt_I (L1 := (bk_7_1.drop 7)) (L2 := bk_7_3) 3 [some (.ref 74), some (.int x1), some (.int x2), some (.int x3), some (.int x4), some (.int x5)] [] (cw κ cs I J W) h (fun _ => rfl) (fun h =>
  tt_I (L1 := bk_7_2) (L2 := (bk_7_1.drop 10)) 3 [some (.ref 74), some (.int x1), some (.int x2), some (.int x3), some (.int x4), some (.int x5)] [] (cw κ cs I J W) h (fun _ => rfl) (fun h =>
  tt_F [some (.ref 74), some (.int x1), some (.int x2), some (.int x3), some (.int x4), some (.int x5)] (And.intro rfl (And.intro rfl (And.intro rfl (And.intro rfl (And.intro rfl (And.intro rfl trivial)))))) (tl_7_2 c1 k1 x1 x2 x3 x4 x5 I _ h)) (fun h =>
  tt_C (L1 := (bk_7_1.drop 16)) 6 [some (.ref 74), some (.int x1), some (.int x2), some (.int x3), some (.int x4), some (.int x5)] [.int x3] (cw κ cs I J W) h (fun _ => rfl) (fun _ e => m_9 (d := d) e) fun q2 h =>
  tt_J (L1 := bk_7_2) 2 [some (.ref 74), some (.int x1), some (.int x2), some (.int (x3 + q2)), some (.int (x4 + (1 : Int32))), some (.int x5)] [] (cw κ cs I J W) (fun _ => rfl) (tt_F [some (.ref 74), some (.int x1), some (.int x2), some (.int (x3 + q2)), some (.int (x4 + (1 : Int32))), some (.int x5)] (And.intro rfl (And.intro rfl (And.intro rfl (And.intro rfl (And.intro rfl (And.intro rfl trivial)))))) (tl_7_2 c1 k1 x1 x2 (x3 + q2) (x4 + (1 : Int32)) x5 I _ h)))) (fun h =>
  tt_F [some (.ref 74), some (.int x1), none, some (.int x3), none, none] (And.intro rfl (And.intro rfl (And.intro rfl trivial))) (tl_7_3  x1 x3 I _ h))) (fun h =>
  tt_F [some (.ref 74), some (.int x1), none, some (.int x3), none, none] (And.intro rfl (And.intro rfl (And.intro rfl trivial))) (tl_7_3  x1 x3 I _ h))
theorem tn_7_1 {d : Nat} {κ : KT} {cs : Nat × Nat} {J : Nat → Nat → Int64} {W : Nat} : ∀ (n : Nat) (x1 : Int32) (x2 : Int32) (x3 : Int32) (x4 : Int32) (x5 : Int32) (I : (Nat → Nat → Int32)) (r : (Nat → Nat → Int32)), fx (fun _ _ _ _ _ _ => none) (bd_7_1 ) n x1 x2 x3 x4 x5 I = some r → tt (d + 2) me_7 bk_7_1 [some (.ref 74), some (.int x1), some (.int x2), some (.int x3), some (.int x4), some (.int x5)] [] (cw κ cs I J W) (.inl none) (cw κ cs r J W)
  | 0 => fun _ _ _ _ _ _ _ h => nomatch h
  | n + 1 => fun x1 x2 x3 x4 x5 I r h => tb_7_1  (fx _ (bd_7_1 ) n) (tn_7_1  n) x1 x2 x3 x4 x5 I r h
theorem tl_7_1 {d : Nat} {κ : KT} {cs : Nat × Nat} {J : Nat → Nat → Int64} {W : Nat} (x1 : Int32) (x2 : Int32) (x3 : Int32) (x4 : Int32) (x5 : Int32) (I : (Nat → Nat → Int32)) (r : (Nat → Nat → Int32)) (h : lb_7_1  x1 x2 x3 x4 x5 I = some r) : tt (d + 2) me_7 bk_7_1 [some (.ref 74), some (.int x1), some (.int x2), some (.int x3), some (.int x4), some (.int x5)] [] (cw κ cs I J W) (.inl none) (cw κ cs r J W) := tn_7_1  FU x1 x2 x3 x4 x5 I r h
theorem m_7 {d : Nat} {κ : KT} {cs : Nat × Nat} {J : Nat → Nat → Int64} {W : Nat} {x1 : Int32} {x2 : Int32} {I : (Nat → Nat → Int32)} {r : (Nat → Nat → Int32)} (h : f_7 x1 x2 I = some r) : tm (d + 2) 7 [.ref 74, .int x1, .int x2] (cw κ cs I J W) (.inl none) (cw κ cs r J W) :=
  tm_of me_7 rfl (Nat.le_of_ble_eq_true rfl) (
  tt_J (L1 := bk_7_1) 5 [some (.ref 74), some (.int x1), some (.int x2), some (.int (0 : Int32)), some (.int (0 : Int32)), some (.int (0 : Int32))] [] (cw κ cs I J W) (fun _ => rfl) (tt_F [some (.ref 74), some (.int x1), some (.int x2), some (.int (0 : Int32)), some (.int (0 : Int32)), some (.int (0 : Int32))] (And.intro rfl (And.intro rfl (And.intro rfl (And.intro rfl (And.intro rfl (And.intro rfl trivial)))))) (tl_7_1  x1 x2 (0 : Int32) (0 : Int32) (0 : Int32) I _ h)))
/- 8 -/
def f_8 (x1 : Int32) (I : (Nat → Nat → Int32)) : Option Int32 :=
  (some (atf (I 75) 180 (((I 74 6) * (60 : Int32)) + x1)))
theorem m_8 {d : Nat} {κ : KT} {cs : Nat × Nat} {J : Nat → Nat → Int64} {W : Nat} {x1 : Int32} {I : (Nat → Nat → Int32)} {r : Int32} (h : f_8 x1 I = some r) : tm (d + 1) 8 [.ref 74, .int x1] (cw κ cs I J W) (.inl (some (.int r))) (cw κ cs I J W) :=
  tm_of me_8 rfl (Nat.le_of_ble_eq_true rfl) (
  tt_K (L1 := (bk_8_0.drop 9)) 9 [some (.ref 74), some (.int x1)] [] (cw κ cs I J W) (fun _ => rfl) (m_at 75 180 (((I 74 6) * (60 : Int32)) + x1) (Nat.le_of_ble_eq_true rfl) rfl)
  (tt_R 1 (fun r => (.inl (some (.int r)))) (fun r => (cw κ cs I J W)) h (fun _ => rfl)))
/- 10 -/
def lb_10_2 (x2 : Int32) (s0 : Int32) (I : (Nat → Nat → Int32)) : Option Int32 :=
  (some ((atf (I 78) 6 x2) + s0))
def f_10 (x1 : Int32) (I : (Nat → Nat → Int32)) : Option Int32 :=
  ((f_8 x1 I).bind fun q1 => (if (I 74 7) = 0 then (lb_10_2  q1 (atf (I 76) 180 (((I 74 6) * (60 : Int32)) + x1)) I) else ((f_9 (I 74 6) q1 I).bind fun q2 => (lb_10_2  q1 ((q2 - (1 : Int32)) - (atf (I 76) 180 (((I 74 6) * (60 : Int32)) + x1))) I))))
theorem tl_10_2 {d : Nat} {κ : KT} {cs : Nat × Nat} {J : Nat → Nat → Int64} {W : Nat} (x2 : Int32) (s0 : Int32) (I : (Nat → Nat → Int32)) (r : Int32) (h : lb_10_2  x2 s0 I = some r) : tt (d + 2) me_10 bk_10_2 [some (.ref 74), none, some (.int x2), none, none] [.int s0] (cw κ cs I J W) (.inl (some (.int r))) (cw κ cs I J W) :=
  tt_K (L1 := (bk_10_2.drop 5)) 5 [some (.ref 74), none, some (.int x2), none, some (.int s0)] [] (cw κ cs I J W) (fun _ => rfl) (m_at 78 6 x2 (Nat.le_of_ble_eq_true rfl) rfl)
  (tt_R 3 (fun r => (.inl (some (.int r)))) (fun r => (cw κ cs I J W)) h (fun _ => rfl))
theorem m_10 {d : Nat} {κ : KT} {cs : Nat × Nat} {J : Nat → Nat → Int64} {W : Nat} {x1 : Int32} {I : (Nat → Nat → Int32)} {r : Int32} (h : f_10 x1 I = some r) : tm (d + 2) 10 [.ref 74, .int x1] (cw κ cs I J W) (.inl (some (.int r))) (cw κ cs I J W) :=
  tm_of me_10 rfl (Nat.le_of_ble_eq_true rfl) (
  tt_C (L1 := (bk_10_0.drop 3)) 3 [some (.ref 74), some (.int x1), none, none, none] [] (cw κ cs I J W) h (fun _ => rfl) (fun _ e => m_8 (d := d) e) fun q1 h =>
  tt_K (L1 := (bk_10_0.drop 13)) 10 [some (.ref 74), some (.int x1), some (.int q1), none, none] [] (cw κ cs I J W) (fun _ => rfl) (m_at 76 180 (((I 74 6) * (60 : Int32)) + x1) (Nat.le_of_ble_eq_true rfl) rfl)
  (tt_I (L1 := (bk_10_0.drop 17)) (L2 := bk_10_1) 4 [some (.ref 74), some (.int x1), some (.int q1), some (.int (atf (I 76) 180 (((I 74 6) * (60 : Int32)) + x1))), none] [] (cw κ cs I J W) h (fun _ => rfl) (fun h =>
  tt_J (L1 := bk_10_2) 1 [some (.ref 74), some (.int x1), some (.int q1), some (.int (atf (I 76) 180 (((I 74 6) * (60 : Int32)) + x1))), none] [.int (atf (I 76) 180 (((I 74 6) * (60 : Int32)) + x1))] (cw κ cs I J W) (fun _ => rfl) (tt_F [some (.ref 74), none, some (.int q1), none, none] (And.intro rfl (And.intro rfl trivial)) (tl_10_2  q1 (atf (I 76) 180 (((I 74 6) * (60 : Int32)) + x1)) I _ h))) (fun h =>
  tt_C (L1 := (bk_10_1.drop 5)) 5 [some (.ref 74), some (.int x1), some (.int q1), some (.int (atf (I 76) 180 (((I 74 6) * (60 : Int32)) + x1))), none] [] (cw κ cs I J W) h (fun _ => rfl) (fun _ e => m_9 (d := d) e) fun q2 h =>
  tt_J (L1 := bk_10_2) 3 [some (.ref 74), some (.int x1), some (.int q1), some (.int (atf (I 76) 180 (((I 74 6) * (60 : Int32)) + x1))), none] [.int ((q2 - (1 : Int32)) - (atf (I 76) 180 (((I 74 6) * (60 : Int32)) + x1)))] (cw κ cs I J W) (fun _ => rfl) (tt_F [some (.ref 74), none, some (.int q1), none, none] (And.intro rfl (And.intro rfl trivial)) (tl_10_2  q1 ((q2 - (1 : Int32)) - (atf (I 76) 180 (((I 74 6) * (60 : Int32)) + x1))) I _ h)))))
/- 51 -/
def f_51 (x1 : Int32) (I : (Nat → Nat → Int32)) : Option Int32 :=
  ((f_125 x1 (I 79 9) ).bind fun q1 => (some (atf (I 80) 8 q1)))
theorem m_51 {d : Nat} {κ : KT} {cs : Nat × Nat} {J : Nat → Nat → Int64} {W : Nat} {x1 : Int32} {I : (Nat → Nat → Int32)} {r : Int32} (h : f_51 x1 I = some r) : tm (d + 2) 51 [.ref 79, .int x1] (cw κ cs I J W) (.inl (some (.int r))) (cw κ cs I J W) :=
  tm_of me_51 rfl (Nat.le_of_ble_eq_true rfl) (
  tt_C (L1 := (bk_51_0.drop 6)) 6 [some (.ref 79), some (.int x1)] [.ref 80] (cw κ cs I J W) h (fun _ => rfl) (fun _ e => m_125 (d := d) e) fun q1 h =>
  tt_K (L1 := (bk_51_0.drop 7)) 1 [some (.ref 79), some (.int x1)] [] (cw κ cs I J W) (fun _ => rfl) (m_at 80 8 q1 (Nat.le_of_ble_eq_true rfl) rfl)
  (tt_R 1 (fun r => (.inl (some (.int r)))) (fun r => (cw κ cs I J W)) h (fun _ => rfl)))
/- 52 -/
def f_52 (x1 : Int32) (I : (Nat → Nat → Int32)) : Option Int32 :=
  ((f_125 x1 (I 79 9) ).bind fun q1 => (some (atf (I 81) 8 q1)))
theorem m_52 {d : Nat} {κ : KT} {cs : Nat × Nat} {J : Nat → Nat → Int64} {W : Nat} {x1 : Int32} {I : (Nat → Nat → Int32)} {r : Int32} (h : f_52 x1 I = some r) : tm (d + 2) 52 [.ref 79, .int x1] (cw κ cs I J W) (.inl (some (.int r))) (cw κ cs I J W) :=
  tm_of me_52 rfl (Nat.le_of_ble_eq_true rfl) (
  tt_C (L1 := (bk_52_0.drop 6)) 6 [some (.ref 79), some (.int x1)] [.ref 81] (cw κ cs I J W) h (fun _ => rfl) (fun _ e => m_125 (d := d) e) fun q1 h =>
  tt_K (L1 := (bk_52_0.drop 7)) 1 [some (.ref 79), some (.int x1)] [] (cw κ cs I J W) (fun _ => rfl) (m_at 81 8 q1 (Nat.le_of_ble_eq_true rfl) rfl)
  (tt_R 1 (fun r => (.inl (some (.int r)))) (fun r => (cw κ cs I J W)) h (fun _ => rfl)))
/- 53 -/
def f_53 (x1 : Int32) (x2 : Int32) (I : (Nat → Nat → Int32)) : Option Int32 :=
  ((f_125 x1 (I 79 9) ).bind fun q1 => (some (atf (I 82) 48 ((q1 * (6 : Int32)) + x2))))
theorem m_53 {d : Nat} {κ : KT} {cs : Nat × Nat} {J : Nat → Nat → Int64} {W : Nat} {x1 : Int32} {x2 : Int32} {I : (Nat → Nat → Int32)} {r : Int32} (h : f_53 x1 x2 I = some r) : tm (d + 2) 53 [.ref 79, .int x1, .int x2] (cw κ cs I J W) (.inl (some (.int r))) (cw κ cs I J W) :=
  tm_of me_53 rfl (Nat.le_of_ble_eq_true rfl) (
  tt_C (L1 := (bk_53_0.drop 6)) 6 [some (.ref 79), some (.int x1), some (.int x2)] [.ref 82] (cw κ cs I J W) h (fun _ => rfl) (fun _ e => m_125 (d := d) e) fun q1 h =>
  tt_K (L1 := (bk_53_0.drop 11)) 5 [some (.ref 79), some (.int x1), some (.int x2)] [] (cw κ cs I J W) (fun _ => rfl) (m_at 82 48 ((q1 * (6 : Int32)) + x2) (Nat.le_of_ble_eq_true rfl) rfl)
  (tt_R 1 (fun r => (.inl (some (.int r)))) (fun r => (cw κ cs I J W)) h (fun _ => rfl)))
/- 14 -/
def lb_14_4 (c1 : Int32 → Int32 → Int32 → Int32 → Int32 → (Nat → Nat → Int32) → Option (Int32 × (Nat → Nat → Int32))) (x1 : Int32) (x2 : Int32) (x3 : Int32) (x4 : Int32) (x5 : Int32) (I : (Nat → Nat → Int32)) : Option (Int32 × (Nat → Nat → Int32)) :=
  (c1 x1 x2 x3 x4 (x5 + (1 : Int32)) I)
def lb_14_3 (c1 : Int32 → Int32 → Int32 → Int32 → Int32 → (Nat → Nat → Int32) → Option (Int32 × (Nat → Nat → Int32))) (x1 : Int32) (x2 : Int32) (x3 : Int32) (x4 : Int32) (x5 : Int32) (x7 : Int32) (s0 : Int32) (s1 : Int32) (I : (Nat → Nat → Int32)) : Option (Int32 × (Nat → Nat → Int32)) :=
  (if (I 79 6) < (s0 + s1) then (lb_14_4 c1 x1 x2 x3 x4 x5 I) else ((f_10 x7 I).bind fun q7 => (let I8 := putf I 86 420 (((x1 + (1 : Int32)) * (60 : Int32)) + x4) (((s0 + s1) * (64 : Int32)) + q7)
  (lb_14_4 c1 x1 x2 x3 (x4 + (1 : Int32)) x5 I8))))
def bd_14_1 (c1 : Int32 → Int32 → Int32 → Int32 → Int32 → (Nat → Nat → Int32) → Option (Int32 × (Nat → Nat → Int32))) (x1 : Int32) (x2 : Int32) (x3 : Int32) (x4 : Int32) (x5 : Int32) (I : (Nat → Nat → Int32)) : Option (Int32 × (Nat → Nat → Int32)) :=
  (if x5 < x2 then ((f_8 ((atf (I 86) 420 ((x1 * (60 : Int32)) + x5)) - (atf (I 86) 420 ((x1 * (60 : Int32)) + x5)) / (64 : Int32) * (64 : Int32)) I).bind fun q6 => (if q6 = x3 then (lb_14_3 c1 x1 x2 x3 x4 x5 ((atf (I 86) 420 ((x1 * (60 : Int32)) + x5)) - (atf (I 86) 420 ((x1 * (60 : Int32)) + x5)) / (64 : Int32) * (64 : Int32)) ((atf (I 86) 420 ((x1 * (60 : Int32)) + x5)) / (64 : Int32)) (0 : Int32) I) else (lb_14_3 c1 x1 x2 x3 x4 x5 ((atf (I 86) 420 ((x1 * (60 : Int32)) + x5)) - (atf (I 86) 420 ((x1 * (60 : Int32)) + x5)) / (64 : Int32) * (64 : Int32)) ((atf (I 86) 420 ((x1 * (60 : Int32)) + x5)) / (64 : Int32)) (1 : Int32) I))) else (some (x4, I)))
def lb_14_1 : Int32 → Int32 → Int32 → Int32 → Int32 → (Nat → Nat → Int32) → Option (Int32 × (Nat → Nat → Int32)) := fx (fun _ _ _ _ _ _ => none) (bd_14_1 ) FU
def f_14 (x1 : Int32) (x2 : Int32) (x3 : Int32) (I : (Nat → Nat → Int32)) : Option (Int32 × (Nat → Nat → Int32)) :=
  ((f_51 x1 I).bind fun q1 => ((f_52 x1 I).bind fun q2 => ((f_3 q1 q2 I).bind fun q3 => ((f_53 x1 x3 q3).bind fun q4 => ((f_4 q4 x3 x3 q3).bind fun q5 => (lb_14_1  x1 x2 x3 (0 : Int32) (0 : Int32) q5))))))
theorem tl_14_4 {d : Nat} {κ : KT} {cs : Nat × Nat} {J : Nat → Nat → Int64} {W : Nat} (c1 : Int32 → Int32 → Int32 → Int32 → Int32 → (Nat → Nat → Int32) → Option (Int32 × (Nat → Nat → Int32))) (k1 : ∀ (x1 : Int32) (x2 : Int32) (x3 : Int32) (x4 : Int32) (x5 : Int32) (I : (Nat → Nat → Int32)) (r : (Int32 × (Nat → Nat → Int32))), c1 x1 x2 x3 x4 x5 I = some r → tt (d + 4) me_14 bk_14_1 [some (.ref 85), some (.int x1), some (.int x2), some (.int x3), some (.int x4), some (.int x5), none, none, none] [] (cw κ cs I J W) (.inl (some (.int r.1))) (cw κ cs r.2 J W)) (x1 : Int32) (x2 : Int32) (x3 : Int32) (x4 : Int32) (x5 : Int32) (I : (Nat → Nat → Int32)) (r : (Int32 × (Nat → Nat → Int32))) (h : lb_14_4 c1 x1 x2 x3 x4 x5 I = some r) : tt (d + 4) me_14 bk_14_4 [some (.ref 85), some (.int x1), some (.int x2), some (.int x3), some (.int x4), some (.int x5), none, none, none] [] (cw κ cs I J W) (.inl (some (.int r.1))) (cw κ cs r.2 J W) :=
  tt_J (L1 := bk_14_1) 1 [some (.ref 85), some (.int x1), some (.int x2), some (.int x3), some (.int x4), some (.int (x5 + (1 : Int32))), none, none, none] [] (cw κ cs I J W) (fun _ => rfl) (tt_F [some (.ref 85), some (.int x1), some (.int x2), some (.int x3), some (.int x4), some (.int (x5 + (1 : Int32))), none, none, none] (And.intro rfl (And.intro rfl (And.intro rfl (And.intro rfl (And.intro rfl (And.intro rfl trivial)))))) (k1 x1 x2 x3 x4 (x5 + (1 : Int32)) I _ h))
theorem tl_14_3 {d : Nat} {κ : KT} {cs : Nat × Nat} {J : Nat → Nat → Int64} {W : Nat} (c1 : Int32 → Int32 → Int32 → Int32 → Int32 → (Nat → Nat → Int32) → Option (Int32 × (Nat → Nat → Int32))) (k1 : ∀ (x1 : Int32) (x2 : Int32) (x3 : Int32) (x4 : Int32) (x5 : Int32) (I : (Nat → Nat → Int32)) (r : (Int32 × (Nat → Nat → Int32))), c1 x1 x2 x3 x4 x5 I = some r → tt (d + 4) me_14 bk_14_1 [some (.ref 85), some (.int x1), some (.int x2), some (.int x3), some (.int x4), some (.int x5), none, none, none] [] (cw κ cs I J W) (.inl (some (.int r.1))) (cw κ cs r.2 J W)) (x1 : Int32) (x2 : Int32) (x3 : Int32) (x4 : Int32) (x5 : Int32) (x7 : Int32) (s0 : Int32) (s1 : Int32) (I : (Nat → Nat → Int32)) (r : (Int32 × (Nat → Nat → Int32))) (h : lb_14_3 c1 x1 x2 x3 x4 x5 x7 s0 s1 I = some r) : tt (d + 4) me_14 bk_14_3 [some (.ref 85), some (.int x1), some (.int x2), some (.int x3), some (.int x4), some (.int x5), none, some (.int x7), none] [.int s1, .int s0] (cw κ cs I J W) (.inl (some (.int r.1))) (cw κ cs r.2 J W) :=
  tt_I (L1 := bk_14_4) (L2 := (bk_14_3.drop 7)) 7 [some (.ref 85), some (.int x1), some (.int x2), some (.int x3), some (.int x4), some (.int x5), none, some (.int x7), some (.int (s0 + s1))] [] (cw κ cs I J W) h (fun _ => rfl) (fun h =>
  tt_F [some (.ref 85), some (.int x1), some (.int x2), some (.int x3), some (.int x4), some (.int x5), none, none, none] (And.intro rfl (And.intro rfl (And.intro rfl (And.intro rfl (And.intro rfl (And.intro rfl trivial)))))) (tl_14_4 c1 k1 x1 x2 x3 x4 x5 I _ h)) (fun h =>
  tt_C (L1 := (bk_14_3.drop 23)) 16 [some (.ref 85), some (.int x1), some (.int x2), some (.int x3), some (.int x4), some (.int x5), none, some (.int x7), some (.int (s0 + s1))] [.int ((s0 + s1) * (64 : Int32)), .int (((x1 + (1 : Int32)) * (60 : Int32)) + x4), .ref 86] (cw κ cs I J W) h (fun _ => rfl) (fun _ e => m_10 (d := d + 1) e) fun q7 h =>
  let I8 := putf I 86 420 (((x1 + (1 : Int32)) * (60 : Int32)) + x4) (((s0 + s1) * (64 : Int32)) + q7)
  tt_K (L1 := (bk_14_3.drop 25)) 2 [some (.ref 85), some (.int x1), some (.int x2), some (.int x3), some (.int x4), some (.int x5), none, some (.int x7), some (.int (s0 + s1))] [] (cw κ cs I J W) (fun _ => rfl) (m_put 86 420 (((x1 + (1 : Int32)) * (60 : Int32)) + x4) (((s0 + s1) * (64 : Int32)) + q7) (Nat.le_of_ble_eq_true rfl) rfl (Nat.le_of_ble_eq_true rfl))
  (tt_J (L1 := bk_14_4) 0 [some (.ref 85), some (.int x1), some (.int x2), some (.int x3), some (.int (x4 + (1 : Int32))), some (.int x5), none, some (.int x7), some (.int (s0 + s1))] [] (cw κ cs I8 J W) (fun _ => rfl) (tt_F [some (.ref 85), some (.int x1), some (.int x2), some (.int x3), some (.int (x4 + (1 : Int32))), some (.int x5), none, none, none] (And.intro rfl (And.intro rfl (And.intro rfl (And.intro rfl (And.intro rfl (And.intro rfl trivial)))))) (tl_14_4 c1 k1 x1 x2 x3 (x4 + (1 : Int32)) x5 I8 _ h))))
theorem tb_14_1 {d : Nat} {κ : KT} {cs : Nat × Nat} {J : Nat → Nat → Int64} {W : Nat} (c1 : Int32 → Int32 → Int32 → Int32 → Int32 → (Nat → Nat → Int32) → Option (Int32 × (Nat → Nat → Int32))) (k1 : ∀ (x1 : Int32) (x2 : Int32) (x3 : Int32) (x4 : Int32) (x5 : Int32) (I : (Nat → Nat → Int32)) (r : (Int32 × (Nat → Nat → Int32))), c1 x1 x2 x3 x4 x5 I = some r → tt (d + 4) me_14 bk_14_1 [some (.ref 85), some (.int x1), some (.int x2), some (.int x3), some (.int x4), some (.int x5), none, none, none] [] (cw κ cs I J W) (.inl (some (.int r.1))) (cw κ cs r.2 J W)) (x1 : Int32) (x2 : Int32) (x3 : Int32) (x4 : Int32) (x5 : Int32) (I : (Nat → Nat → Int32)) (r : (Int32 × (Nat → Nat → Int32))) (h : bd_14_1  c1 x1 x2 x3 x4 x5 I = some r) : tt (d + 4) me_14 bk_14_1 [some (.ref 85), some (.int x1), some (.int x2), some (.int x3), some (.int x4), some (.int x5), none, none, none] [] (cw κ cs I J W) (.inl (some (.int r.1))) (cw κ cs r.2 J W) :=
  tt_I (L1 := (bk_14_1.drop 3)) (L2 := bk_14_5) 3 [some (.ref 85), some (.int x1), some (.int x2), some (.int x3), some (.int x4), some (.int x5), none, none, none] [] (cw κ cs I J W) h (fun _ => rfl) (fun h =>
  tt_K (L1 := (bk_14_1.drop 11)) 8 [some (.ref 85), some (.int x1), some (.int x2), some (.int x3), some (.int x4), some (.int x5), none, none, none] [] (cw κ cs I J W) (fun _ => rfl) (m_at 86 420 ((x1 * (60 : Int32)) + x5) (Nat.le_of_ble_eq_true rfl) rfl)
  (tt_C (L1 := (bk_14_1.drop 23)) 12 [some (.ref 85), some (.int x1), some (.int x2), some (.int x3), some (.int x4), some (.int x5), some (.int (atf (I 86) 420 ((x1 * (60 : Int32)) + x5))), some (.int ((atf (I 86) 420 ((x1 * (60 : Int32)) + x5)) - (atf (I 86) 420 ((x1 * (60 : Int32)) + x5)) / (64 : Int32) * (64 : Int32))), none] [.int ((atf (I 86) 420 ((x1 * (60 : Int32)) + x5)) / (64 : Int32))] (cw κ cs I J W) h (fun _ => rfl) (fun _ e => m_8 (d := d + 2) e) fun q6 h =>
  tt_I (L1 := (bk_14_1.drop 25)) (L2 := bk_14_2) 2 [some (.ref 85), some (.int x1), some (.int x2), some (.int x3), some (.int x4), some (.int x5), some (.int (atf (I 86) 420 ((x1 * (60 : Int32)) + x5))), some (.int ((atf (I 86) 420 ((x1 * (60 : Int32)) + x5)) - (atf (I 86) 420 ((x1 * (60 : Int32)) + x5)) / (64 : Int32) * (64 : Int32))), none] [.int ((atf (I 86) 420 ((x1 * (60 : Int32)) + x5)) / (64 : Int32))] (cw κ cs I J W) h (fun _ => rfl) (fun h =>
  tt_J (L1 := bk_14_3) 1 [some (.ref 85), some (.int x1), some (.int x2), some (.int x3), some (.int x4), some (.int x5), some (.int (atf (I 86) 420 ((x1 * (60 : Int32)) + x5))), some (.int ((atf (I 86) 420 ((x1 * (60 : Int32)) + x5)) - (atf (I 86) 420 ((x1 * (60 : Int32)) + x5)) / (64 : Int32) * (64 : Int32))), none] [.int (0 : Int32), .int ((atf (I 86) 420 ((x1 * (60 : Int32)) + x5)) / (64 : Int32))] (cw κ cs I J W) (fun _ => rfl) (tt_F [some (.ref 85), some (.int x1), some (.int x2), some (.int x3), some (.int x4), some (.int x5), none, some (.int ((atf (I 86) 420 ((x1 * (60 : Int32)) + x5)) - (atf (I 86) 420 ((x1 * (60 : Int32)) + x5)) / (64 : Int32) * (64 : Int32))), none] (And.intro rfl (And.intro rfl (And.intro rfl (And.intro rfl (And.intro rfl (And.intro rfl (And.intro rfl trivial))))))) (tl_14_3 c1 k1 x1 x2 x3 x4 x5 ((atf (I 86) 420 ((x1 * (60 : Int32)) + x5)) - (atf (I 86) 420 ((x1 * (60 : Int32)) + x5)) / (64 : Int32) * (64 : Int32)) ((atf (I 86) 420 ((x1 * (60 : Int32)) + x5)) / (64 : Int32)) (0 : Int32) I _ h))) (fun h =>
  tt_J (L1 := bk_14_3) 0 [some (.ref 85), some (.int x1), some (.int x2), some (.int x3), some (.int x4), some (.int x5), some (.int (atf (I 86) 420 ((x1 * (60 : Int32)) + x5))), some (.int ((atf (I 86) 420 ((x1 * (60 : Int32)) + x5)) - (atf (I 86) 420 ((x1 * (60 : Int32)) + x5)) / (64 : Int32) * (64 : Int32))), none] [.int (1 : Int32), .int ((atf (I 86) 420 ((x1 * (60 : Int32)) + x5)) / (64 : Int32))] (cw κ cs I J W) (fun _ => rfl) (tt_F [some (.ref 85), some (.int x1), some (.int x2), some (.int x3), some (.int x4), some (.int x5), none, some (.int ((atf (I 86) 420 ((x1 * (60 : Int32)) + x5)) - (atf (I 86) 420 ((x1 * (60 : Int32)) + x5)) / (64 : Int32) * (64 : Int32))), none] (And.intro rfl (And.intro rfl (And.intro rfl (And.intro rfl (And.intro rfl (And.intro rfl (And.intro rfl trivial))))))) (tl_14_3 c1 k1 x1 x2 x3 x4 x5 ((atf (I 86) 420 ((x1 * (60 : Int32)) + x5)) - (atf (I 86) 420 ((x1 * (60 : Int32)) + x5)) / (64 : Int32) * (64 : Int32)) ((atf (I 86) 420 ((x1 * (60 : Int32)) + x5)) / (64 : Int32)) (1 : Int32) I _ h))))) (fun h =>
  tt_R 2 (fun r => (.inl (some (.int r.1)))) (fun r => (cw κ cs r.2 J W)) h (fun _ => rfl))
theorem tn_14_1 {d : Nat} {κ : KT} {cs : Nat × Nat} {J : Nat → Nat → Int64} {W : Nat} : ∀ (n : Nat) (x1 : Int32) (x2 : Int32) (x3 : Int32) (x4 : Int32) (x5 : Int32) (I : (Nat → Nat → Int32)) (r : (Int32 × (Nat → Nat → Int32))), fx (fun _ _ _ _ _ _ => none) (bd_14_1 ) n x1 x2 x3 x4 x5 I = some r → tt (d + 4) me_14 bk_14_1 [some (.ref 85), some (.int x1), some (.int x2), some (.int x3), some (.int x4), some (.int x5), none, none, none] [] (cw κ cs I J W) (.inl (some (.int r.1))) (cw κ cs r.2 J W)
  | 0 => fun _ _ _ _ _ _ _ h => nomatch h
  | n + 1 => fun x1 x2 x3 x4 x5 I r h => tb_14_1  (fx _ (bd_14_1 ) n) (tn_14_1  n) x1 x2 x3 x4 x5 I r h
theorem tl_14_1 {d : Nat} {κ : KT} {cs : Nat × Nat} {J : Nat → Nat → Int64} {W : Nat} (x1 : Int32) (x2 : Int32) (x3 : Int32) (x4 : Int32) (x5 : Int32) (I : (Nat → Nat → Int32)) (r : (Int32 × (Nat → Nat → Int32))) (h : lb_14_1  x1 x2 x3 x4 x5 I = some r) : tt (d + 4) me_14 bk_14_1 [some (.ref 85), some (.int x1), some (.int x2), some (.int x3), some (.int x4), some (.int x5), none, none, none] [] (cw κ cs I J W) (.inl (some (.int r.1))) (cw κ cs r.2 J W) := tn_14_1  FU x1 x2 x3 x4 x5 I r h
theorem m_14 {d : Nat} {κ : KT} {cs : Nat × Nat} {J : Nat → Nat → Int64} {W : Nat} {x1 : Int32} {x2 : Int32} {x3 : Int32} {I : (Nat → Nat → Int32)} {r : (Int32 × (Nat → Nat → Int32))} (h : f_14 x1 x2 x3 I = some r) : tm (d + 4) 14 [.ref 85, .int x1, .int x2, .int x3] (cw κ cs I J W) (.inl (some (.int r.1))) (cw κ cs r.2 J W) :=
  tm_of me_14 rfl (Nat.le_of_ble_eq_true rfl) (
  tt_C (L1 := (bk_14_0.drop 6)) 6 [some (.ref 85), some (.int x1), some (.int x2), some (.int x3), none, none, none, none, none] [.ref 74] (cw κ cs I J W) h (fun _ => rfl) (fun _ e => m_51 (d := d + 1) e) fun q1 h =>
  tt_C (L1 := (bk_14_0.drop 10)) 4 [some (.ref 85), some (.int x1), some (.int x2), some (.int x3), none, none, none, none, none] [.int q1, .ref 74] (cw κ cs I J W) h (fun _ => rfl) (fun _ e => m_52 (d := d + 1) e) fun q2 h =>
  tt_C (L1 := (bk_14_0.drop 11)) 1 [some (.ref 85), some (.int x1), some (.int x2), some (.int x3), none, none, none, none, none] [] (cw κ cs I J W) h (fun _ => rfl) (fun _ e => m_3 (d := d + 3) e) fun q3 h =>
  tt_C (L1 := (bk_14_0.drop 18)) 7 [some (.ref 85), some (.int x1), some (.int x2), some (.int x3), none, none, none, none, none] [.ref 74] (cw κ cs q3 J W) h (fun _ => rfl) (fun _ e => m_53 (d := d + 1) e) fun q4 h =>
  tt_C (L1 := (bk_14_0.drop 21)) 3 [some (.ref 85), some (.int x1), some (.int x2), some (.int x3), none, none, none, none, none] [] (cw κ cs q3 J W) h (fun _ => rfl) (fun _ e => m_4 (d := d) e) fun q5 h =>
  tt_J (L1 := bk_14_1) 3 [some (.ref 85), some (.int x1), some (.int x2), some (.int x3), some (.int (0 : Int32)), some (.int (0 : Int32)), none, none, none] [] (cw κ cs q5 J W) (fun _ => rfl) (tt_F [some (.ref 85), some (.int x1), some (.int x2), some (.int x3), some (.int (0 : Int32)), some (.int (0 : Int32)), none, none, none] (And.intro rfl (And.intro rfl (And.intro rfl (And.intro rfl (And.intro rfl (And.intro rfl trivial)))))) (tl_14_1  x1 x2 x3 (0 : Int32) (0 : Int32) q5 _ h)))
/- 13 -/
def bd_13_3 (c999 : Int32 → Int32 → (Nat → Nat → Int32) → Option (Nat → Nat → Int32)) (c3 : Int32 → Int32 → Int32 → (Nat → Nat → Int32) → Option (Nat → Nat → Int32)) (x1 : Int32) (x2 : Int32) (x3 : Int32) (I : (Nat → Nat → Int32)) : Option (Nat → Nat → Int32) :=
  (if x3 < (I 79 5) then ((f_14 x1 x2 x3 I).bind fun q1 => ((c999 (x1 + (1 : Int32)) q1.1 q1.2).bind fun q2 => (c3 x1 x2 (x3 + (1 : Int32)) q2))) else (some I))
def lb_13_3 (c999 : Int32 → Int32 → (Nat → Nat → Int32) → Option (Nat → Nat → Int32)) : Int32 → Int32 → Int32 → (Nat → Nat → Int32) → Option (Nat → Nat → Int32) := fx (fun _ _ _ _ => none) (bd_13_3 c999) FU
def fb_13 (c999 : Int32 → Int32 → (Nat → Nat → Int32) → Option (Nat → Nat → Int32)) (x1 : Int32) (x2 : Int32) (I : (Nat → Nat → Int32)) : Option (Nat → Nat → Int32) :=
  (if (I 85 4) < x2 then (if x1 < (I 85 3) then (lb_13_3 c999 x1 x2 (0 : Int32) I) else (let I3 := up I 85 4 x2
  (some I3))) else (some I))
theorem tb_13_3 {d : Nat} {κ : KT} {cs : Nat × Nat} {J : Nat → Nat → Int64} {W : Nat} (c999 : Int32 → Int32 → (Nat → Nat → Int32) → Option (Nat → Nat → Int32)) (k999 : ∀ (x1 : Int32) (x2 : Int32) (I : (Nat → Nat → Int32)) (r : (Nat → Nat → Int32)), c999 x1 x2 I = some r → tm (d + 4) 13 [.ref 85, .int x1, .int x2] (cw κ cs I J W) (.inl none) (cw κ cs r J W)) (c3 : Int32 → Int32 → Int32 → (Nat → Nat → Int32) → Option (Nat → Nat → Int32)) (k3 : ∀ (x1 : Int32) (x2 : Int32) (x3 : Int32) (I : (Nat → Nat → Int32)) (r : (Nat → Nat → Int32)), c3 x1 x2 x3 I = some r → tt (d + 5) me_13 bk_13_3 [some (.ref 85), some (.int x1), some (.int x2), some (.int x3)] [] (cw κ cs I J W) (.inl none) (cw κ cs r J W)) (x1 : Int32) (x2 : Int32) (x3 : Int32) (I : (Nat → Nat → Int32)) (r : (Nat → Nat → Int32)) (h : bd_13_3 c999 c3 x1 x2 x3 I = some r) : tt (d + 5) me_13 bk_13_3 [some (.ref 85), some (.int x1), some (.int x2), some (.int x3)] [] (cw κ cs I J W) (.inl none) (cw κ cs r J W) :=
  tt_I (L1 := (bk_13_3.drop 5)) (L2 := bk_13_4) 5 [some (.ref 85), some (.int x1), some (.int x2), some (.int x3)] [] (cw κ cs I J W) h (fun _ => rfl) (fun h =>
  tt_C (L1 := (bk_13_3.drop 14)) 9 [some (.ref 85), some (.int x1), some (.int x2), some (.int x3)] [.int (x1 + (1 : Int32)), .ref 85] (cw κ cs I J W) h (fun _ => rfl) (fun _ e => m_14 (d := d) e) fun q1 h =>
  tt_C (d := d + 4) (L1 := (bk_13_3.drop 15)) 1 [some (.ref 85), some (.int x1), some (.int x2), some (.int x3)] [] (cw κ cs q1.2 J W) h (fun _ => rfl) (fun _ e => k999 (x1 + (1 : Int32)) q1.1 q1.2 _ e) fun q2 h =>
  tt_J (L1 := bk_13_3) 1 [some (.ref 85), some (.int x1), some (.int x2), some (.int (x3 + (1 : Int32)))] [] (cw κ cs q2 J W) (fun _ => rfl) (tt_F [some (.ref 85), some (.int x1), some (.int x2), some (.int (x3 + (1 : Int32)))] (And.intro rfl (And.intro rfl (And.intro rfl (And.intro rfl trivial)))) (k3 x1 x2 (x3 + (1 : Int32)) q2 _ h))) (fun h =>
  tt_R 1 (fun r => (.inl none)) (fun r => (cw κ cs r J W)) h (fun _ => rfl))
theorem tn_13_3 {d : Nat} {κ : KT} {cs : Nat × Nat} {J : Nat → Nat → Int64} {W : Nat} (c999 : Int32 → Int32 → (Nat → Nat → Int32) → Option (Nat → Nat → Int32)) (k999 : ∀ (x1 : Int32) (x2 : Int32) (I : (Nat → Nat → Int32)) (r : (Nat → Nat → Int32)), c999 x1 x2 I = some r → tm (d + 4) 13 [.ref 85, .int x1, .int x2] (cw κ cs I J W) (.inl none) (cw κ cs r J W)) : ∀ (n : Nat) (x1 : Int32) (x2 : Int32) (x3 : Int32) (I : (Nat → Nat → Int32)) (r : (Nat → Nat → Int32)), fx (fun _ _ _ _ => none) (bd_13_3 c999) n x1 x2 x3 I = some r → tt (d + 5) me_13 bk_13_3 [some (.ref 85), some (.int x1), some (.int x2), some (.int x3)] [] (cw κ cs I J W) (.inl none) (cw κ cs r J W)
  | 0 => fun _ _ _ _ _ h => nomatch h
  | n + 1 => fun x1 x2 x3 I r h => tb_13_3 c999 k999 (fx _ (bd_13_3 c999) n) (tn_13_3 c999 k999 n) x1 x2 x3 I r h
theorem tl_13_3 {d : Nat} {κ : KT} {cs : Nat × Nat} {J : Nat → Nat → Int64} {W : Nat} (c999 : Int32 → Int32 → (Nat → Nat → Int32) → Option (Nat → Nat → Int32)) (k999 : ∀ (x1 : Int32) (x2 : Int32) (I : (Nat → Nat → Int32)) (r : (Nat → Nat → Int32)), c999 x1 x2 I = some r → tm (d + 4) 13 [.ref 85, .int x1, .int x2] (cw κ cs I J W) (.inl none) (cw κ cs r J W)) (x1 : Int32) (x2 : Int32) (x3 : Int32) (I : (Nat → Nat → Int32)) (r : (Nat → Nat → Int32)) (h : lb_13_3 c999 x1 x2 x3 I = some r) : tt (d + 5) me_13 bk_13_3 [some (.ref 85), some (.int x1), some (.int x2), some (.int x3)] [] (cw κ cs I J W) (.inl none) (cw κ cs r J W) := tn_13_3 c999 k999 FU x1 x2 x3 I r h
theorem mb_13 {d : Nat} {κ : KT} {cs : Nat × Nat} {J : Nat → Nat → Int64} {W : Nat} (c999 : Int32 → Int32 → (Nat → Nat → Int32) → Option (Nat → Nat → Int32)) (k999 : ∀ (x1 : Int32) (x2 : Int32) (I : (Nat → Nat → Int32)) (r : (Nat → Nat → Int32)), c999 x1 x2 I = some r → tm (d + 4) 13 [.ref 85, .int x1, .int x2] (cw κ cs I J W) (.inl none) (cw κ cs r J W)) (x1 : Int32) (x2 : Int32) (I : (Nat → Nat → Int32)) (r : (Nat → Nat → Int32)) (h : fb_13 c999 x1 x2 I = some r) : tm (d + 5) 13 [.ref 85, .int x1, .int x2] (cw κ cs I J W) (.inl none) (cw κ cs r J W) :=
  tm_of me_13 rfl (Nat.le_of_ble_eq_true rfl) (
  tt_I (L1 := bk_13_1) (L2 := (bk_13_0.drop 4)) 4 [some (.ref 85), some (.int x1), some (.int x2), none] [] (cw κ cs I J W) h (fun _ => rfl) (fun h =>
  tt_I (L1 := bk_13_2) (L2 := (bk_13_1.drop 4)) 4 [some (.ref 85), some (.int x1), some (.int x2), none] [] (cw κ cs I J W) h (fun _ => rfl) (fun h =>
  tt_J (L1 := bk_13_3) 1 [some (.ref 85), some (.int x1), some (.int x2), some (.int (0 : Int32))] [] (cw κ cs I J W) (fun _ => rfl) (tt_F [some (.ref 85), some (.int x1), some (.int x2), some (.int (0 : Int32))] (And.intro rfl (And.intro rfl (And.intro rfl (And.intro rfl trivial)))) (tl_13_3 c999 k999 x1 x2 (0 : Int32) I _ h))) (fun h =>
  let I3 := up I 85 4 x2
  tt_R 4 (fun r => (.inl none)) (fun r => (cw κ cs r J W)) h (fun _ => rfl))) (fun h =>
  tt_R 1 (fun r => (.inl none)) (fun r => (cw κ cs r J W)) h (fun _ => rfl)))
def f_13 : Int32 → Int32 → (Nat → Nat → Int32) → Option (Nat → Nat → Int32) := fx (fun _ _ _ => none) fb_13 8
theorem mn_13 {d : Nat} {κ : KT} {cs : Nat × Nat} {J : Nat → Nat → Int64} {W : Nat} : ∀ (n : Nat) (x1 : Int32) (x2 : Int32) (I : (Nat → Nat → Int32)) (r : (Nat → Nat → Int32)), fx (fun _ _ _ => none) fb_13 n x1 x2 I = some r → tm (d + n + 4) 13 [.ref 85, .int x1, .int x2] (cw κ cs I J W) (.inl none) (cw κ cs r J W)
  | 0 => fun _ _ _ _ h => nomatch h
  | n + 1 => fun x1 x2 I r h => by
    have g := mb_13 (d := d + n) (κ := κ) (cs := cs) (J := J) (W := W) (fx _ fb_13 n) (mn_13 (d := d) (κ := κ) (cs := cs) (J := J) (W := W) n) x1 x2 I r h
    rwa [show d + n + 5 = d + (n + 1) + 4 by omega] at g
theorem m_13 {d : Nat} {κ : KT} {cs : Nat × Nat} {J : Nat → Nat → Int64} {W : Nat} {x1 : Int32} {x2 : Int32} {I : (Nat → Nat → Int32)} {r : (Nat → Nat → Int32)} (h : f_13 x1 x2 I = some r) : tm (d + 12) 13 [.ref 85, .int x1, .int x2] (cw κ cs I J W) (.inl none) (cw κ cs r J W) := by
  have g := mn_13 (d := d) (κ := κ) (cs := cs) (J := J) (W := W) 8 x1 x2 I r h
  rwa [Nat.add_assoc] at g
/- 12 -/
def bd_12_1 (c1 : Int32 → (Nat → Nat → Int32) → Option (Int32 × (Nat → Nat → Int32))) (x2 : Int32) (I : (Nat → Nat → Int32)) : Option (Int32 × (Nat → Nat → Int32)) :=
  (if x2 < (I 79 4) then (let I4 := putf I 86 420 x2 x2
  (c1 (x2 + (1 : Int32)) I4)) else ((f_13 (0 : Int32) (I 79 4) I).bind fun q3 => (some ((q3 85 4), q3))))
def lb_12_1 : Int32 → (Nat → Nat → Int32) → Option (Int32 × (Nat → Nat → Int32)) := fx (fun _ _ => none) (bd_12_1 ) FU
def f_12 (x1 : Int32) (I : (Nat → Nat → Int32)) : Option (Int32 × (Nat → Nat → Int32)) :=
  (let I1 := up I 85 3 x1
  (let I2 := up I1 85 4 (0 : Int32)
  (lb_12_1  (0 : Int32) I2)))
theorem tb_12_1 {d : Nat} {κ : KT} {cs : Nat × Nat} {J : Nat → Nat → Int64} {W : Nat} (c1 : Int32 → (Nat → Nat → Int32) → Option (Int32 × (Nat → Nat → Int32))) (k1 : ∀ (x2 : Int32) (I : (Nat → Nat → Int32)) (r : (Int32 × (Nat → Nat → Int32))), c1 x2 I = some r → tt (d + 13) me_12 bk_12_1 [some (.ref 85), none, some (.int x2)] [] (cw κ cs I J W) (.inl (some (.int r.1))) (cw κ cs r.2 J W)) (x2 : Int32) (I : (Nat → Nat → Int32)) (r : (Int32 × (Nat → Nat → Int32))) (h : bd_12_1  c1 x2 I = some r) : tt (d + 13) me_12 bk_12_1 [some (.ref 85), none, some (.int x2)] [] (cw κ cs I J W) (.inl (some (.int r.1))) (cw κ cs r.2 J W) :=
  tt_I (L1 := (bk_12_1.drop 5)) (L2 := bk_12_2) 5 [some (.ref 85), none, some (.int x2)] [] (cw κ cs I J W) h (fun _ => rfl) (fun h =>
  let I4 := putf I 86 420 x2 x2
  tt_K (L1 := (bk_12_1.drop 10)) 5 [some (.ref 85), none, some (.int x2)] [] (cw κ cs I J W) (fun _ => rfl) (m_put 86 420 x2 x2 (Nat.le_of_ble_eq_true rfl) rfl (Nat.le_of_ble_eq_true rfl))
  (tt_J (L1 := bk_12_1) 1 [some (.ref 85), none, some (.int (x2 + (1 : Int32)))] [] (cw κ cs I4 J W) (fun _ => rfl) (tt_F [some (.ref 85), none, some (.int (x2 + (1 : Int32)))] (And.intro rfl (And.intro rfl trivial)) (k1 (x2 + (1 : Int32)) I4 _ h)))) (fun h =>
  tt_C (L1 := (bk_12_2.drop 6)) 6 [some (.ref 85), none, some (.int x2)] [] (cw κ cs I J W) h (fun _ => rfl) (fun _ e => m_13 (d := d) e) fun q3 h =>
  tt_R 3 (fun r => (.inl (some (.int r.1)))) (fun r => (cw κ cs r.2 J W)) h (fun _ => rfl))
theorem tn_12_1 {d : Nat} {κ : KT} {cs : Nat × Nat} {J : Nat → Nat → Int64} {W : Nat} : ∀ (n : Nat) (x2 : Int32) (I : (Nat → Nat → Int32)) (r : (Int32 × (Nat → Nat → Int32))), fx (fun _ _ => none) (bd_12_1 ) n x2 I = some r → tt (d + 13) me_12 bk_12_1 [some (.ref 85), none, some (.int x2)] [] (cw κ cs I J W) (.inl (some (.int r.1))) (cw κ cs r.2 J W)
  | 0 => fun _ _ _ h => nomatch h
  | n + 1 => fun x2 I r h => tb_12_1  (fx _ (bd_12_1 ) n) (tn_12_1  n) x2 I r h
theorem tl_12_1 {d : Nat} {κ : KT} {cs : Nat × Nat} {J : Nat → Nat → Int64} {W : Nat} (x2 : Int32) (I : (Nat → Nat → Int32)) (r : (Int32 × (Nat → Nat → Int32))) (h : lb_12_1  x2 I = some r) : tt (d + 13) me_12 bk_12_1 [some (.ref 85), none, some (.int x2)] [] (cw κ cs I J W) (.inl (some (.int r.1))) (cw κ cs r.2 J W) := tn_12_1  FU x2 I r h
theorem m_12 {d : Nat} {κ : KT} {cs : Nat × Nat} {J : Nat → Nat → Int64} {W : Nat} {x1 : Int32} {I : (Nat → Nat → Int32)} {r : (Int32 × (Nat → Nat → Int32))} (h : f_12 x1 I = some r) : tm (d + 13) 12 [.ref 85, .int x1] (cw κ cs I J W) (.inl (some (.int r.1))) (cw κ cs r.2 J W) :=
  tm_of me_12 rfl (Nat.le_of_ble_eq_true rfl) (
  let I1 := up I 85 3 x1
  let I2 := up I1 85 4 (0 : Int32)
  tt_J (L1 := (bk_12_0.drop 6)) 5 [some (.ref 85), some (.int x1), none] [] (cw κ cs I2 J W) (fun _ => rfl) (
  tt_J (L1 := bk_12_1) 1 [some (.ref 85), some (.int x1), some (.int (0 : Int32))] [] (cw κ cs I2 J W) (fun _ => rfl) (tt_F [some (.ref 85), none, some (.int (0 : Int32))] (And.intro rfl (And.intro rfl trivial)) (tl_12_1  (0 : Int32) I2 _ h))))
/- 16 -/
def bd_16_1 (c1 : Int32 → (Nat → Nat → Int32) → Option (Nat → Nat → Int32)) (x1 : Int32) (I : (Nat → Nat → Int32)) : Option (Nat → Nat → Int32) :=
  (if x1 < (nI 4) then (if ex_in x1 4 then let I4 := up I 64 (x1).toNatClampNeg (vp_nar .boolean (0 : Int32))
  (c1 (x1 + (1 : Int32)) I4) else none) else (let I2 := up I 62 6 (0 : Int32)
  (let I3 := up I2 67 7 (0 : Int32)
  (some I3))))
def lb_16_1 : Int32 → (Nat → Nat → Int32) → Option (Nat → Nat → Int32) := fx (fun _ _ => none) (bd_16_1 ) FU
def f_16 (I : (Nat → Nat → Int32)) : Option (Nat → Nat → Int32) :=
  (let I1 := cpyf I 55 63 4
  (lb_16_1  (0 : Int32) I1))
theorem tb_16_1 {d : Nat} {κ : KT} {cs : Nat × Nat} {J : Nat → Nat → Int64} {W : Nat} (c1 : Int32 → (Nat → Nat → Int32) → Option (Nat → Nat → Int32)) (k1 : ∀ (x1 : Int32) (I : (Nat → Nat → Int32)) (r : (Nat → Nat → Int32)), c1 x1 I = some r → tt (d + 2) me_16 bk_16_1 [some (.ref 62), some (.int x1)] [] (cw κ cs I J W) (.inl none) (cw κ cs r J W)) (x1 : Int32) (I : (Nat → Nat → Int32)) (r : (Nat → Nat → Int32)) (h : bd_16_1  c1 x1 I = some r) : tt (d + 2) me_16 bk_16_1 [some (.ref 62), some (.int x1)] [] (cw κ cs I J W) (.inl none) (cw κ cs r J W) :=
  tt_I (L1 := (bk_16_1.drop 5)) (L2 := bk_16_2) 5 [some (.ref 62), some (.int x1)] [] (cw κ cs I J W) h (fun _ => rfl) (fun h =>
  let I4 := up I 64 (x1).toNatClampNeg (vp_nar .boolean (0 : Int32))
  tt_J (L1 := (bk_16_1.drop 9)) 3 [some (.ref 62), some (.int x1)] [.int (0 : Int32), .int x1, .ref 64] (cw κ cs I J W) (fun _ => rfl) (
  tt_Wz rfl (Nat.le_of_ble_eq_true rfl) h fun h =>
  tt_J (L1 := bk_16_1) 1 [some (.ref 62), some (.int (x1 + (1 : Int32)))] [] (cw κ cs I4 J W) (fun _ => rfl) (tt_F [some (.ref 62), some (.int (x1 + (1 : Int32)))] (And.intro rfl (And.intro rfl trivial)) (k1 (x1 + (1 : Int32)) I4 _ h)))) (fun h =>
  let I2 := up I 62 6 (0 : Int32)
  let I3 := up I2 67 7 (0 : Int32)
  tt_J (L1 := (bk_16_2.drop 7)) 6 [some (.ref 62), some (.int x1)] [] (cw κ cs I3 J W) (fun _ => rfl) (
  tt_R 1 (fun r => (.inl none)) (fun r => (cw κ cs r J W)) h (fun _ => rfl)))
theorem tn_16_1 {d : Nat} {κ : KT} {cs : Nat × Nat} {J : Nat → Nat → Int64} {W : Nat} : ∀ (n : Nat) (x1 : Int32) (I : (Nat → Nat → Int32)) (r : (Nat → Nat → Int32)), fx (fun _ _ => none) (bd_16_1 ) n x1 I = some r → tt (d + 2) me_16 bk_16_1 [some (.ref 62), some (.int x1)] [] (cw κ cs I J W) (.inl none) (cw κ cs r J W)
  | 0 => fun _ _ _ h => nomatch h
  | n + 1 => fun x1 I r h => tb_16_1  (fx _ (bd_16_1 ) n) (tn_16_1  n) x1 I r h
theorem tl_16_1 {d : Nat} {κ : KT} {cs : Nat × Nat} {J : Nat → Nat → Int64} {W : Nat} (x1 : Int32) (I : (Nat → Nat → Int32)) (r : (Nat → Nat → Int32)) (h : lb_16_1  x1 I = some r) : tt (d + 2) me_16 bk_16_1 [some (.ref 62), some (.int x1)] [] (cw κ cs I J W) (.inl none) (cw κ cs r J W) := tn_16_1  FU x1 I r h
theorem m_16 {d : Nat} {κ : KT} {cs : Nat × Nat} {J : Nat → Nat → Int64} {W : Nat} {I : (Nat → Nat → Int32)} {r : (Nat → Nat → Int32)} (h : f_16  I = some r) : tm (d + 2) 16 [.ref 62] (cw κ cs I J W) (.inl none) (cw κ cs r J W) :=
  tm_of me_16 rfl (Nat.le_of_ble_eq_true rfl) (
  let I1 := cpyf I 55 63 4
  tt_K (L1 := (bk_16_0.drop 4)) 4 [some (.ref 62), none] [] (cw κ cs I J W) (fun _ => rfl) (m_copy 55 4 63 4 (Nat.le_of_ble_eq_true rfl) (Nat.le_of_ble_eq_true rfl) rfl rfl (Nat.le_of_ble_eq_true rfl))
  (tt_J (L1 := bk_16_1) 1 [some (.ref 62), some (.int (0 : Int32))] [] (cw κ cs I1 J W) (fun _ => rfl) (tt_F [some (.ref 62), some (.int (0 : Int32))] (And.intro rfl (And.intro rfl trivial)) (tl_16_1  (0 : Int32) I1 _ h))))
/- 213 -/
def lb_213_2 (s0 : Int32) : Option Int32 :=
  (some s0)
def f_213 (x0 : Int32) (x1 : Int32) : Option Int32 :=
  (if x1 < x0 then (lb_213_2  x1 ) else (lb_213_2  x0 ))
theorem tl_213_2 {d : Nat} {κ : KT} {cs : Nat × Nat} {I : Nat → Nat → Int32} {J : Nat → Nat → Int64} {W : Nat} (s0 : Int32) (r : Int32) (h : lb_213_2  s0  = some r) : tt d me_213 bk_213_2 [none, none] [.int s0] (cw κ cs I J W) (.inl (some (.int r))) (cw κ cs I J W) :=
  tt_R 1 (fun r => (.inl (some (.int r)))) (fun r => (cw κ cs I J W)) h (fun _ => rfl)
theorem m_213 {d : Nat} {κ : KT} {cs : Nat × Nat} {I : Nat → Nat → Int32} {J : Nat → Nat → Int64} {W : Nat} {x0 : Int32} {x1 : Int32} {r : Int32} (h : f_213 x0 x1  = some r) : tm d 213 [.int x0, .int x1] (cw κ cs I J W) (.inl (some (.int r))) (cw κ cs I J W) :=
  tm_of me_213 rfl (Nat.le_of_ble_eq_true rfl) (
  tt_I (L1 := bk_213_1) (L2 := (bk_213_0.drop 3)) 3 [some (.int x0), some (.int x1)] [] (cw κ cs I J W) h (fun _ => rfl) (fun h =>
  tt_J (L1 := bk_213_2) 0 [some (.int x0), some (.int x1)] [.int x1] (cw κ cs I J W) (fun _ => rfl) (tt_F [none, none] trivial (tl_213_2  x1  _ h))) (fun h =>
  tt_J (L1 := bk_213_2) 1 [some (.int x0), some (.int x1)] [.int x0] (cw κ cs I J W) (fun _ => rfl) (tt_F [none, none] trivial (tl_213_2  x0  _ h))))
/- 77 -/
def lb_77_2 (s0 : Int32) (I : (Nat → Nat → Int32)) : Option Int32 :=
  (some s0)
def lb_77_1 (I : (Nat → Nat → Int32)) : Option Int32 :=
  (lb_77_2  ((-1) : Int32) I)
def f_77 (x1 : Int32) (I : (Nat → Nat → Int32)) : Option Int32 :=
  (if x1 < 0 then (lb_77_1   I) else (if x1 < (I 60 2) then (if x1 < (nI 500) then (if ex_in x1 500 then (lb_77_2  ((I 61 (x1).toNatClampNeg) &&& (255 : Int32)) I) else none) else (lb_77_1   I)) else (lb_77_1   I)))
theorem tl_77_2 {d : Nat} {κ : KT} {cs : Nat × Nat} {J : Nat → Nat → Int64} {W : Nat} (s0 : Int32) (I : (Nat → Nat → Int32)) (r : Int32) (h : lb_77_2  s0 I = some r) : tt d me_77 bk_77_2 [none, none] [.int s0] (cw κ cs I J W) (.inl (some (.int r))) (cw κ cs I J W) :=
  tt_R 1 (fun r => (.inl (some (.int r)))) (fun r => (cw κ cs I J W)) h (fun _ => rfl)
theorem tl_77_1 {d : Nat} {κ : KT} {cs : Nat × Nat} {J : Nat → Nat → Int64} {W : Nat} (I : (Nat → Nat → Int32)) (r : Int32) (h : lb_77_1   I = some r) : tt d me_77 bk_77_1 [none, none] [] (cw κ cs I J W) (.inl (some (.int r))) (cw κ cs I J W) :=
  tt_J (L1 := bk_77_2) 0 [none, none] [.int ((-1) : Int32)] (cw κ cs I J W) (fun _ => rfl) (tt_F [none, none] trivial (tl_77_2  ((-1) : Int32) I _ h))
theorem m_77 {d : Nat} {κ : KT} {cs : Nat × Nat} {J : Nat → Nat → Int64} {W : Nat} {x1 : Int32} {I : (Nat → Nat → Int32)} {r : Int32} (h : f_77 x1 I = some r) : tm d 77 [.ref 60, .int x1] (cw κ cs I J W) (.inl (some (.int r))) (cw κ cs I J W) :=
  tm_of me_77 rfl (Nat.le_of_ble_eq_true rfl) (
  tt_I (L1 := bk_77_1) (L2 := (bk_77_0.drop 2)) 2 [some (.ref 60), some (.int x1)] [] (cw κ cs I J W) h (fun _ => rfl) (fun h =>
  tt_F [none, none] trivial (tl_77_1   I _ h)) (fun h =>
  tt_I (L1 := (bk_77_0.drop 6)) (L2 := bk_77_1) 4 [some (.ref 60), some (.int x1)] [] (cw κ cs I J W) h (fun _ => rfl) (fun h =>
  tt_I (L1 := (bk_77_0.drop 11)) (L2 := bk_77_1) 5 [some (.ref 60), some (.int x1)] [] (cw κ cs I J W) h (fun _ => rfl) (fun h =>
  tt_J (L1 := (bk_77_0.drop 14)) 2 [some (.ref 60), some (.int x1)] [.int x1, .ref 61] (cw κ cs I J W) (fun _ => rfl) (
  tt_Qb rfl h fun h =>
  tt_J (L1 := bk_77_2) 2 [some (.ref 60), some (.int x1)] [.int ((I 61 (x1).toNatClampNeg) &&& (255 : Int32))] (cw κ cs I J W) (fun _ => rfl) (tt_F [none, none] trivial (tl_77_2  ((I 61 (x1).toNatClampNeg) &&& (255 : Int32)) I _ h)))) (fun h =>
  tt_F [none, none] trivial (tl_77_1   I _ h))) (fun h =>
  tt_F [none, none] trivial (tl_77_1   I _ h))))
/- 79 -/
def lb_79_2 (s0 : Int32) : Option Int32 :=
  (if (s0 = 0 ∨ s0 = 1) then some s0 else none)
def lb_79_1 : Option Int32 :=
  (lb_79_2  (0 : Int32) )
def f_79 (x0 : Int32) : Option Int32 :=
  (if x0 < (97 : Int32) then (lb_79_1   ) else (if (122 : Int32) < x0 then (lb_79_1   ) else (lb_79_2  (1 : Int32) )))
theorem tl_79_2 {d : Nat} {κ : KT} {cs : Nat × Nat} {I : Nat → Nat → Int32} {J : Nat → Nat → Int64} {W : Nat} (s0 : Int32) (r : Int32) (h : lb_79_2  s0  = some r) : tt d me_79 bk_79_2 [none] [.int s0] (cw κ cs I J W) (.inl (some (.int r))) (cw κ cs I J W) :=
  tt_B 1 (fun r => (.inl (some (.int r)))) (fun r => (cw κ cs I J W)) h (fun q => Or.inr (Or.inl ⟨rfl, q⟩)) (fun _ => rfl)
theorem tl_79_1 {d : Nat} {κ : KT} {cs : Nat × Nat} {I : Nat → Nat → Int32} {J : Nat → Nat → Int64} {W : Nat} (r : Int32) (h : lb_79_1    = some r) : tt d me_79 bk_79_1 [none] [] (cw κ cs I J W) (.inl (some (.int r))) (cw κ cs I J W) :=
  tt_J (L1 := bk_79_2) 0 [none] [.int (0 : Int32)] (cw κ cs I J W) (fun _ => rfl) (tt_F [none] trivial (tl_79_2  (0 : Int32)  _ h))
theorem m_79 {d : Nat} {κ : KT} {cs : Nat × Nat} {I : Nat → Nat → Int32} {J : Nat → Nat → Int64} {W : Nat} {x0 : Int32} {r : Int32} (h : f_79 x0  = some r) : tm d 79 [.int x0] (cw κ cs I J W) (.inl (some (.int r))) (cw κ cs I J W) :=
  tm_of me_79 rfl (Nat.le_of_ble_eq_true rfl) (
  tt_I (L1 := bk_79_1) (L2 := (bk_79_0.drop 3)) 3 [some (.int x0)] [] (cw κ cs I J W) h (fun _ => rfl) (fun h =>
  tt_F [none] trivial (tl_79_1    _ h)) (fun h =>
  tt_I (L1 := bk_79_1) (L2 := (bk_79_0.drop 6)) 3 [some (.int x0)] [] (cw κ cs I J W) h (fun _ => rfl) (fun h =>
  tt_F [none] trivial (tl_79_1    _ h)) (fun h =>
  tt_J (L1 := bk_79_2) 1 [some (.int x0)] [.int (1 : Int32)] (cw κ cs I J W) (fun _ => rfl) (tt_F [none] trivial (tl_79_2  (1 : Int32)  _ h)))))
/- 80 -/
def lb_80_2 (s0 : Int32) : Option Int32 :=
  (if (s0 = 0 ∨ s0 = 1) then some s0 else none)
def lb_80_1 : Option Int32 :=
  (lb_80_2  (0 : Int32) )
def f_80 (x0 : Int32) : Option Int32 :=
  (if x0 < (48 : Int32) then (lb_80_1   ) else (if (57 : Int32) < x0 then (lb_80_1   ) else (lb_80_2  (1 : Int32) )))
theorem tl_80_2 {d : Nat} {κ : KT} {cs : Nat × Nat} {I : Nat → Nat → Int32} {J : Nat → Nat → Int64} {W : Nat} (s0 : Int32) (r : Int32) (h : lb_80_2  s0  = some r) : tt d me_80 bk_80_2 [none] [.int s0] (cw κ cs I J W) (.inl (some (.int r))) (cw κ cs I J W) :=
  tt_B 1 (fun r => (.inl (some (.int r)))) (fun r => (cw κ cs I J W)) h (fun q => Or.inr (Or.inl ⟨rfl, q⟩)) (fun _ => rfl)
theorem tl_80_1 {d : Nat} {κ : KT} {cs : Nat × Nat} {I : Nat → Nat → Int32} {J : Nat → Nat → Int64} {W : Nat} (r : Int32) (h : lb_80_1    = some r) : tt d me_80 bk_80_1 [none] [] (cw κ cs I J W) (.inl (some (.int r))) (cw κ cs I J W) :=
  tt_J (L1 := bk_80_2) 0 [none] [.int (0 : Int32)] (cw κ cs I J W) (fun _ => rfl) (tt_F [none] trivial (tl_80_2  (0 : Int32)  _ h))
theorem m_80 {d : Nat} {κ : KT} {cs : Nat × Nat} {I : Nat → Nat → Int32} {J : Nat → Nat → Int64} {W : Nat} {x0 : Int32} {r : Int32} (h : f_80 x0  = some r) : tm d 80 [.int x0] (cw κ cs I J W) (.inl (some (.int r))) (cw κ cs I J W) :=
  tm_of me_80 rfl (Nat.le_of_ble_eq_true rfl) (
  tt_I (L1 := bk_80_1) (L2 := (bk_80_0.drop 3)) 3 [some (.int x0)] [] (cw κ cs I J W) h (fun _ => rfl) (fun h =>
  tt_F [none] trivial (tl_80_1    _ h)) (fun h =>
  tt_I (L1 := bk_80_1) (L2 := (bk_80_0.drop 6)) 3 [some (.int x0)] [] (cw κ cs I J W) h (fun _ => rfl) (fun h =>
  tt_F [none] trivial (tl_80_1    _ h)) (fun h =>
  tt_J (L1 := bk_80_2) 1 [some (.int x0)] [.int (1 : Int32)] (cw κ cs I J W) (fun _ => rfl) (tt_F [none] trivial (tl_80_2  (1 : Int32)  _ h)))))
/- 74 -/
def lb_74_3 (I : (Nat → Nat → Int32)) : Option (Nat → Nat → Int32) :=
  (some I)
def lb_74_2 (c1 : (Nat → Nat → Int32) → Option (Nat → Nat → Int32)) (I : (Nat → Nat → Int32)) : Option (Nat → Nat → Int32) :=
  (let I4 := up I 60 3 ((I 60 3) + (1 : Int32))
  (c1  I4))
def bd_74_1 (c1 : (Nat → Nat → Int32) → Option (Nat → Nat → Int32)) (I : (Nat → Nat → Int32)) : Option (Nat → Nat → Int32) :=
  (if (I 60 3) < (I 60 2) then ((f_77 (I 60 3) I).bind fun q2 => ((f_80 q2 ).bind fun q3 => (if q3 = 0 then (lb_74_3   I) else (if ((I 60 3) - (I 60 4)) < (4 : Int32) then ((f_77 (I 60 3) I).bind fun q5 => (let I6 := up I 60 7 ((((10 : Int32) * (I 60 7)) + q5) - (48 : Int32))
  (lb_74_2 c1  I6))) else (lb_74_2 c1  I))))) else (lb_74_3   I))
def lb_74_1 : (Nat → Nat → Int32) → Option (Nat → Nat → Int32) := fx (fun _ => none) (bd_74_1 ) FU
def f_74 (I : (Nat → Nat → Int32)) : Option (Nat → Nat → Int32) :=
  (let I1 := up I 60 5 (2 : Int32)
  (lb_74_1   I1))
theorem tl_74_3 {d : Nat} {κ : KT} {cs : Nat × Nat} {J : Nat → Nat → Int64} {W : Nat} (I : (Nat → Nat → Int32)) (r : (Nat → Nat → Int32)) (h : lb_74_3   I = some r) : tt (d + 1) me_74 bk_74_3 [none] [] (cw κ cs I J W) (.inl none) (cw κ cs r J W) :=
  tt_R 1 (fun r => (.inl none)) (fun r => (cw κ cs r J W)) h (fun _ => rfl)
theorem tl_74_2 {d : Nat} {κ : KT} {cs : Nat × Nat} {J : Nat → Nat → Int64} {W : Nat} (c1 : (Nat → Nat → Int32) → Option (Nat → Nat → Int32)) (k1 : ∀ (I : (Nat → Nat → Int32)) (r : (Nat → Nat → Int32)), c1  I = some r → tt (d + 1) me_74 bk_74_1 [some (.ref 60)] [] (cw κ cs I J W) (.inl none) (cw κ cs r J W)) (I : (Nat → Nat → Int32)) (r : (Nat → Nat → Int32)) (h : lb_74_2 c1  I = some r) : tt (d + 1) me_74 bk_74_2 [some (.ref 60)] [] (cw κ cs I J W) (.inl none) (cw κ cs r J W) :=
  let I4 := up I 60 3 ((I 60 3) + (1 : Int32))
  tt_J (L1 := bk_74_1) 6 [some (.ref 60)] [] (cw κ cs I4 J W) (fun _ => rfl) (tt_F [some (.ref 60)] (And.intro rfl trivial) (k1  I4 _ h))
theorem tb_74_1 {d : Nat} {κ : KT} {cs : Nat × Nat} {J : Nat → Nat → Int64} {W : Nat} (c1 : (Nat → Nat → Int32) → Option (Nat → Nat → Int32)) (k1 : ∀ (I : (Nat → Nat → Int32)) (r : (Nat → Nat → Int32)), c1  I = some r → tt (d + 1) me_74 bk_74_1 [some (.ref 60)] [] (cw κ cs I J W) (.inl none) (cw κ cs r J W)) (I : (Nat → Nat → Int32)) (r : (Nat → Nat → Int32)) (h : bd_74_1  c1  I = some r) : tt (d + 1) me_74 bk_74_1 [some (.ref 60)] [] (cw κ cs I J W) (.inl none) (cw κ cs r J W) :=
  tt_I (L1 := (bk_74_1.drop 5)) (L2 := bk_74_3) 5 [some (.ref 60)] [] (cw κ cs I J W) h (fun _ => rfl) (fun h =>
  tt_C (L1 := (bk_74_1.drop 9)) 4 [some (.ref 60)] [] (cw κ cs I J W) h (fun _ => rfl) (fun _ e => m_77 (d := d) e) fun q2 h =>
  tt_C (L1 := (bk_74_1.drop 10)) 1 [some (.ref 60)] [] (cw κ cs I J W) h (fun _ => rfl) (fun _ e => m_80 (d := d) e) fun q3 h =>
  tt_I (L1 := bk_74_3) (L2 := (bk_74_1.drop 11)) 1 [some (.ref 60)] [] (cw κ cs I J W) h (fun _ => rfl) (fun h =>
  tt_F [none] trivial (tl_74_3   I _ h)) (fun h =>
  tt_I (L1 := (bk_74_1.drop 18)) (L2 := bk_74_2) 7 [some (.ref 60)] [] (cw κ cs I J W) h (fun _ => rfl) (fun h =>
  tt_C (L1 := (bk_74_1.drop 27)) 9 [some (.ref 60)] [.int ((10 : Int32) * (I 60 7)), .ref 60] (cw κ cs I J W) h (fun _ => rfl) (fun _ e => m_77 (d := d) e) fun q5 h =>
  let I6 := up I 60 7 ((((10 : Int32) * (I 60 7)) + q5) - (48 : Int32))
  tt_J (L1 := bk_74_2) 3 [some (.ref 60)] [] (cw κ cs I6 J W) (fun _ => rfl) (tt_F [some (.ref 60)] (And.intro rfl trivial) (tl_74_2 c1 k1  I6 _ h))) (fun h =>
  tt_F [some (.ref 60)] (And.intro rfl trivial) (tl_74_2 c1 k1  I _ h)))) (fun h =>
  tt_F [none] trivial (tl_74_3   I _ h))
theorem tn_74_1 {d : Nat} {κ : KT} {cs : Nat × Nat} {J : Nat → Nat → Int64} {W : Nat} : ∀ (n : Nat) (I : (Nat → Nat → Int32)) (r : (Nat → Nat → Int32)), fx (fun _ => none) (bd_74_1 ) n  I = some r → tt (d + 1) me_74 bk_74_1 [some (.ref 60)] [] (cw κ cs I J W) (.inl none) (cw κ cs r J W)
  | 0 => fun _ _ h => nomatch h
  | n + 1 => fun  I r h => tb_74_1  (fx _ (bd_74_1 ) n) (tn_74_1  n)  I r h
theorem tl_74_1 {d : Nat} {κ : KT} {cs : Nat × Nat} {J : Nat → Nat → Int64} {W : Nat} (I : (Nat → Nat → Int32)) (r : (Nat → Nat → Int32)) (h : lb_74_1   I = some r) : tt (d + 1) me_74 bk_74_1 [some (.ref 60)] [] (cw κ cs I J W) (.inl none) (cw κ cs r J W) := tn_74_1  FU  I r h
theorem m_74 {d : Nat} {κ : KT} {cs : Nat × Nat} {J : Nat → Nat → Int64} {W : Nat} {I : (Nat → Nat → Int32)} {r : (Nat → Nat → Int32)} (h : f_74  I = some r) : tm (d + 1) 74 [.ref 60] (cw κ cs I J W) (.inl none) (cw κ cs r J W) :=
  tm_of me_74 rfl (Nat.le_of_ble_eq_true rfl) (
  let I1 := up I 60 5 (2 : Int32)
  tt_J (L1 := bk_74_1) 2 [some (.ref 60)] [] (cw κ cs I1 J W) (fun _ => rfl) (tt_F [some (.ref 60)] (And.intro rfl trivial) (tl_74_1   I1 _ h)))
