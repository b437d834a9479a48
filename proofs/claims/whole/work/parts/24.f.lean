/-! functions, by wip/whole/sy.py -/
/- 25 -/
def lb_25_6 (x1 : Int32) (I : (Nat → Nat → Int32)) (W : Nat) : Option (Int32 × (Nat → Nat → Int32) × Nat) :=
  (let I5 := putf I 69 8 x1 (I 67 7)
  (some ((0 : Int32), I5, W)))
def lb_25_5 (c1 : Int32 → Int32 → (Nat → Nat → Int32) → Nat → Option (Int32 × (Nat → Nat → Int32) × Nat)) (x1 : Int32) (x2 : Int32) (I : (Nat → Nat → Int32)) (W : Nat) : Option (Int32 × (Nat → Nat → Int32) × Nat) :=
  (c1 x1 (x2 + (1 : Int32)) I W)
def lb_25_3 (c1 : Int32 → Int32 → (Nat → Nat → Int32) → Nat → Option (Int32 × (Nat → Nat → Int32) × Nat)) (x1 : Int32) (x2 : Int32) (s0 : Int32) (I : (Nat → Nat → Int32)) (W : Nat) : Option (Int32 × (Nat → Nat → Int32) × Nat) :=
  (if s0 = 0 then (if (I 67 13) = 0 then ((f_72  I W).bind fun q7 => (lb_25_5 c1 x1 x2 q7.1 q7.2)) else (lb_25_5 c1 x1 x2 I W)) else (some (s0, I, W)))
def bd_25_1 (c1 : Int32 → Int32 → (Nat → Nat → Int32) → Nat → Option (Int32 × (Nat → Nat → Int32) × Nat)) (x1 : Int32) (x2 : Int32) (I : (Nat → Nat → Int32)) (W : Nat) : Option (Int32 × (Nat → Nat → Int32) × Nat) :=
  (if (500 : Int32) < x2 then (lb_25_6  x1 I W) else (if (I 67 13) = 0 then (if (I 67 12) = 0 then ((f_32  I W).bind fun q6 => (lb_25_3 c1 x1 x2 q6.1 q6.2 W)) else ((f_28  I W).bind fun q8 => (lb_25_3 c1 x1 x2 q8.1 q8.2 W))) else (lb_25_6  x1 I W)))
def lb_25_1 : Int32 → Int32 → (Nat → Nat → Int32) → Nat → Option (Int32 × (Nat → Nat → Int32) × Nat) := fx (fun _ _ _ _ => none) (bd_25_1 ) FU
def f_25 (x1 : Int32) (I : (Nat → Nat → Int32)) (W : Nat) : Option (Int32 × (Nat → Nat → Int32) × Nat) :=
  (let I1 := up I 67 8 (0 : Int32)
  (let I2 := up I1 67 9 (0 : Int32)
  (let I3 := up I2 67 13 (0 : Int32)
  ((f_26  I3).bind fun q4 => (lb_25_1  x1 (0 : Int32) q4 W)))))
theorem tl_25_6 {d : Nat} {κ : KT} {cs : Nat × Nat} {J : Nat → Nat → Int64} (x1 : Int32) (I : (Nat → Nat → Int32)) (W : Nat) (r : (Int32 × (Nat → Nat → Int32) × Nat)) (h : lb_25_6  x1 I W = some r) : tt (d + 7) me_25 bk_25_6 [some (.ref 67), some (.int x1), none, none] [] (cw κ cs I J W) (.inl (some (.int r.1))) (cw κ cs r.2.1 J r.2.2) :=
  let I5 := putf I 69 8 x1 (I 67 7)
  tt_K (L1 := (bk_25_6.drop 6)) 6 [some (.ref 67), some (.int x1), none, none] [] (cw κ cs I J W) (fun _ => rfl) (m_put 69 8 x1 (I 67 7) (Nat.le_of_ble_eq_true rfl) rfl (Nat.le_of_ble_eq_true rfl))
  (tt_R 2 (fun r => (.inl (some (.int r.1)))) (fun r => (cw κ cs r.2.1 J r.2.2)) h (fun _ => rfl))
theorem tl_25_5 {d : Nat} {κ : KT} {cs : Nat × Nat} {J : Nat → Nat → Int64} (c1 : Int32 → Int32 → (Nat → Nat → Int32) → Nat → Option (Int32 × (Nat → Nat → Int32) × Nat)) (k1 : ∀ (x1 : Int32) (x2 : Int32) (I : (Nat → Nat → Int32)) (W : Nat) (r : (Int32 × (Nat → Nat → Int32) × Nat)), c1 x1 x2 I W = some r → tt (d + 7) me_25 bk_25_1 [some (.ref 67), some (.int x1), some (.int x2), none] [] (cw κ cs I J W) (.inl (some (.int r.1))) (cw κ cs r.2.1 J r.2.2)) (x1 : Int32) (x2 : Int32) (I : (Nat → Nat → Int32)) (W : Nat) (r : (Int32 × (Nat → Nat → Int32) × Nat)) (h : lb_25_5 c1 x1 x2 I W = some r) : tt (d + 7) me_25 bk_25_5 [some (.ref 67), some (.int x1), some (.int x2), none] [] (cw κ cs I J W) (.inl (some (.int r.1))) (cw κ cs r.2.1 J r.2.2) :=
  tt_J (L1 := bk_25_1) 1 [some (.ref 67), some (.int x1), some (.int (x2 + (1 : Int32))), none] [] (cw κ cs I J W) (fun _ => rfl) (tt_F [some (.ref 67), some (.int x1), some (.int (x2 + (1 : Int32))), none] (And.intro rfl (And.intro rfl (And.intro rfl trivial))) (k1 x1 (x2 + (1 : Int32)) I W _ h))
theorem tl_25_3 {d : Nat} {κ : KT} {cs : Nat × Nat} {J : Nat → Nat → Int64} (c1 : Int32 → Int32 → (Nat → Nat → Int32) → Nat → Option (Int32 × (Nat → Nat → Int32) × Nat)) (k1 : ∀ (x1 : Int32) (x2 : Int32) (I : (Nat → Nat → Int32)) (W : Nat) (r : (Int32 × (Nat → Nat → Int32) × Nat)), c1 x1 x2 I W = some r → tt (d + 7) me_25 bk_25_1 [some (.ref 67), some (.int x1), some (.int x2), none] [] (cw κ cs I J W) (.inl (some (.int r.1))) (cw κ cs r.2.1 J r.2.2)) (x1 : Int32) (x2 : Int32) (s0 : Int32) (I : (Nat → Nat → Int32)) (W : Nat) (r : (Int32 × (Nat → Nat → Int32) × Nat)) (h : lb_25_3 c1 x1 x2 s0 I W = some r) : tt (d + 7) me_25 bk_25_3 [some (.ref 67), some (.int x1), some (.int x2), none] [.int s0] (cw κ cs I J W) (.inl (some (.int r.1))) (cw κ cs r.2.1 J r.2.2) :=
  tt_I (L1 := bk_25_4) (L2 := (bk_25_3.drop 3)) 3 [some (.ref 67), some (.int x1), some (.int x2), some (.int s0)] [] (cw κ cs I J W) h (fun _ => rfl) (fun h =>
  tt_I (L1 := (bk_25_4.drop 3)) (L2 := bk_25_5) 3 [some (.ref 67), some (.int x1), some (.int x2), some (.int s0)] [] (cw κ cs I J W) h (fun _ => rfl) (fun h =>
  tt_C (L1 := bk_25_5) 3 [some (.ref 67), some (.int x1), some (.int x2), some (.int s0)] [] (cw κ cs I J W) h (fun _ => rfl) (fun _ e => m_72 (d := d) e) fun q7 h =>
  tt_F [some (.ref 67), some (.int x1), some (.int x2), none] (And.intro rfl (And.intro rfl (And.intro rfl trivial))) (tl_25_5 c1 k1 x1 x2 q7.1 q7.2 _ h)) (fun h =>
  tt_F [some (.ref 67), some (.int x1), some (.int x2), none] (And.intro rfl (And.intro rfl (And.intro rfl trivial))) (tl_25_5 c1 k1 x1 x2 I W _ h))) (fun h =>
  tt_R 2 (fun r => (.inl (some (.int r.1)))) (fun r => (cw κ cs r.2.1 J r.2.2)) h (fun _ => rfl))
theorem tb_25_1 {d : Nat} {κ : KT} {cs : Nat × Nat} {J : Nat → Nat → Int64} (c1 : Int32 → Int32 → (Nat → Nat → Int32) → Nat → Option (Int32 × (Nat → Nat → Int32) × Nat)) (k1 : ∀ (x1 : Int32) (x2 : Int32) (I : (Nat → Nat → Int32)) (W : Nat) (r : (Int32 × (Nat → Nat → Int32) × Nat)), c1 x1 x2 I W = some r → tt (d + 7) me_25 bk_25_1 [some (.ref 67), some (.int x1), some (.int x2), none] [] (cw κ cs I J W) (.inl (some (.int r.1))) (cw κ cs r.2.1 J r.2.2)) (x1 : Int32) (x2 : Int32) (I : (Nat → Nat → Int32)) (W : Nat) (r : (Int32 × (Nat → Nat → Int32) × Nat)) (h : bd_25_1  c1 x1 x2 I W = some r) : tt (d + 7) me_25 bk_25_1 [some (.ref 67), some (.int x1), some (.int x2), none] [] (cw κ cs I J W) (.inl (some (.int r.1))) (cw κ cs r.2.1 J r.2.2) :=
  tt_I (L1 := bk_25_6) (L2 := (bk_25_1.drop 3)) 3 [some (.ref 67), some (.int x1), some (.int x2), none] [] (cw κ cs I J W) h (fun _ => rfl) (fun h =>
  tt_F [some (.ref 67), some (.int x1), none, none] (And.intro rfl (And.intro rfl trivial)) (tl_25_6  x1 I W _ h)) (fun h =>
  tt_I (L1 := (bk_25_1.drop 6)) (L2 := bk_25_6) 3 [some (.ref 67), some (.int x1), some (.int x2), none] [] (cw κ cs I J W) h (fun _ => rfl) (fun h =>
  tt_I (L1 := bk_25_2) (L2 := (bk_25_1.drop 9)) 3 [some (.ref 67), some (.int x1), some (.int x2), none] [] (cw κ cs I J W) h (fun _ => rfl) (fun h =>
  tt_C (L1 := bk_25_3) 2 [some (.ref 67), some (.int x1), some (.int x2), none] [] (cw κ cs I J W) h (fun _ => rfl) (fun _ e => m_32 (d := d + 3) e) fun q6 h =>
  tt_F [some (.ref 67), some (.int x1), some (.int x2), none] (And.intro rfl (And.intro rfl (And.intro rfl trivial))) (tl_25_3 c1 k1 x1 x2 q6.1 q6.2 W _ h)) (fun h =>
  tt_C (L1 := (bk_25_1.drop 11)) 2 [some (.ref 67), some (.int x1), some (.int x2), none] [] (cw κ cs I J W) h (fun _ => rfl) (fun _ e => m_28 (d := d + 4) e) fun q8 h =>
  tt_J (L1 := bk_25_3) 0 [some (.ref 67), some (.int x1), some (.int x2), none] [.int q8.1] (cw κ cs q8.2 J W) (fun _ => rfl) (tt_F [some (.ref 67), some (.int x1), some (.int x2), none] (And.intro rfl (And.intro rfl (And.intro rfl trivial))) (tl_25_3 c1 k1 x1 x2 q8.1 q8.2 W _ h)))) (fun h =>
  tt_F [some (.ref 67), some (.int x1), none, none] (And.intro rfl (And.intro rfl trivial)) (tl_25_6  x1 I W _ h)))
theorem tn_25_1 {d : Nat} {κ : KT} {cs : Nat × Nat} {J : Nat → Nat → Int64} : ∀ (n : Nat) (x1 : Int32) (x2 : Int32) (I : (Nat → Nat → Int32)) (W : Nat) (r : (Int32 × (Nat → Nat → Int32) × Nat)), fx (fun _ _ _ _ => none) (bd_25_1 ) n x1 x2 I W = some r → tt (d + 7) me_25 bk_25_1 [some (.ref 67), some (.int x1), some (.int x2), none] [] (cw κ cs I J W) (.inl (some (.int r.1))) (cw κ cs r.2.1 J r.2.2)
  | 0 => fun _ _ _ _ _ h => nomatch h
  | n + 1 => fun x1 x2 I W r h => tb_25_1  (fx _ (bd_25_1 ) n) (tn_25_1  n) x1 x2 I W r h
theorem tl_25_1 {d : Nat} {κ : KT} {cs : Nat × Nat} {J : Nat → Nat → Int64} (x1 : Int32) (x2 : Int32) (I : (Nat → Nat → Int32)) (W : Nat) (r : (Int32 × (Nat → Nat → Int32) × Nat)) (h : lb_25_1  x1 x2 I W = some r) : tt (d + 7) me_25 bk_25_1 [some (.ref 67), some (.int x1), some (.int x2), none] [] (cw κ cs I J W) (.inl (some (.int r.1))) (cw κ cs r.2.1 J r.2.2) := tn_25_1  FU x1 x2 I W r h
theorem m_25 {d : Nat} {κ : KT} {cs : Nat × Nat} {J : Nat → Nat → Int64} {x1 : Int32} {I : (Nat → Nat → Int32)} {W : Nat} {r : (Int32 × (Nat → Nat → Int32) × Nat)} (h : f_25 x1 I W = some r) : tm (d + 7) 25 [.ref 67, .int x1] (cw κ cs I J W) (.inl (some (.int r.1))) (cw κ cs r.2.1 J r.2.2) :=
  tm_of me_25 rfl (Nat.le_of_ble_eq_true rfl) (
  let I1 := up I 67 8 (0 : Int32)
  let I2 := up I1 67 9 (0 : Int32)
  tt_J (L1 := (bk_25_0.drop 6)) 5 [some (.ref 67), some (.int x1), none, none] [] (cw κ cs I2 J W) (fun _ => rfl) (
  let I3 := up I2 67 13 (0 : Int32)
  tt_C (L1 := (bk_25_0.drop 11)) 5 [some (.ref 67), some (.int x1), none, none] [] (cw κ cs I3 J W) (show ((f_26  I3).bind fun q4 => (lb_25_1  x1 (0 : Int32) q4 W)) = some r from h) (fun _ => rfl) (fun _ e => m_26 (d := d + 5) e) fun q4 h =>
  tt_J (L1 := bk_25_1) 1 [some (.ref 67), some (.int x1), some (.int (0 : Int32)), none] [] (cw κ cs q4 J W) (fun _ => rfl) (tt_F [some (.ref 67), some (.int x1), some (.int (0 : Int32)), none] (And.intro rfl (And.intro rfl (And.intro rfl trivial))) (tl_25_1  x1 (0 : Int32) q4 W _ h))))
/- 20 -/
def f_20 (I : (Nat → Nat → Int32)) (W : Nat) : Option (Int32 × (Nat → Nat → Int32) × Nat) :=
  (if (I 60 8) = (59 : Int32) then ((f_72  I W).bind fun q1 => (some ((0 : Int32), q1.1, q1.2))) else (some ((1 : Int32), I, W)))
theorem m_20 {d : Nat} {κ : KT} {cs : Nat × Nat} {J : Nat → Nat → Int64} {I : (Nat → Nat → Int32)} {W : Nat} {r : (Int32 × (Nat → Nat → Int32) × Nat)} (h : f_20  I W = some r) : tm (d + 7) 20 [.ref 62] (cw κ cs I J W) (.inl (some (.int r.1))) (cw κ cs r.2.1 J r.2.2) :=
  tm_of me_20 rfl (Nat.le_of_ble_eq_true rfl) (
  tt_I (L1 := bk_20_1) (L2 := (bk_20_0.drop 5)) 5 [some (.ref 62)] [] (cw κ cs I J W) h (fun _ => rfl) (fun h =>
  tt_C (L1 := (bk_20_1.drop 3)) 3 [some (.ref 62)] [] (cw κ cs I J W) h (fun _ => rfl) (fun _ e => m_72 (d := d) e) fun q1 h =>
  tt_R 2 (fun r => (.inl (some (.int r.1)))) (fun r => (cw κ cs r.2.1 J r.2.2)) h (fun _ => rfl)) (fun h =>
  tt_R 2 (fun r => (.inl (some (.int r.1)))) (fun r => (cw κ cs r.2.1 J r.2.2)) h (fun _ => rfl)))
/- 19 -/
def f_19 (I : (Nat → Nat → Int32)) (W : Nat) : Option (Int32 × (Nat → Nat → Int32) × Nat) :=
  (if (I 62 6) < (8 : Int32) then ((f_72  I W).bind fun q1 => ((f_22 q1.2 ).bind fun q2 => (if q2 = ((-1) : Int32) then (some ((1 : Int32), q1.1, q1.2)) else ((f_72  q1.1 q1.2).bind fun q3 => ((f_23 q3.2 ).bind fun q4 => (if q4 = ((-1) : Int32) then (some ((1 : Int32), q3.1, q3.2)) else ((f_72  q3.1 q3.2).bind fun q5 => (if isw q5.2 ∧ isw 13 then (if q5.2 = 13 then ((f_72  q5.1 q5.2).bind fun q6 => ((f_25 (q6.1 62 6) q6.1 q6.2).bind fun q7 => (if q7.1 = 0 then (let I8 := putf q7.2.1 65 8 (q7.2.1 62 6) q2
  (let I9 := putf I8 66 8 (I8 62 6) q4
  (let I10 := up I9 62 6 ((I9 62 6) + (1 : Int32))
  ((f_20  I10 q7.2.2).bind fun q11 => (some (q11.1, q11.2.1, q11.2.2)))))) else (some (q7.1, q7.2.1, q7.2.2))))) else (some ((1 : Int32), q5.1, q5.2))) else none)))))))) else (some ((2 : Int32), I, W)))
theorem m_19 {d : Nat} {κ : KT} {cs : Nat × Nat} {J : Nat → Nat → Int64} {I : (Nat → Nat → Int32)} {W : Nat} {r : (Int32 × (Nat → Nat → Int32) × Nat)} (h : f_19  I W = some r) : tm (d + 8) 19 [.ref 62] (cw κ cs I J W) (.inl (some (.int r.1))) (cw κ cs r.2.1 J r.2.2) :=
  tm_of me_19 rfl (Nat.le_of_ble_eq_true rfl) (
  tt_I (L1 := bk_19_1) (L2 := (bk_19_0.drop 4)) 4 [some (.ref 62), none, none, none] [] (cw κ cs I J W) h (fun _ => rfl) (fun h =>
  tt_C (L1 := (bk_19_1.drop 3)) 3 [some (.ref 62), none, none, none] [] (cw κ cs I J W) h (fun _ => rfl) (fun _ e => m_72 (d := d + 1) e) fun q1 h =>
  tt_C (L1 := (bk_19_1.drop 7)) 4 [some (.ref 62), none, none, none] [] (cw κ cs q1.1 J q1.2) h (fun _ => rfl) (fun _ e => m_22 (d := d + 7) e) fun q2 h =>
  tt_I (L1 := (bk_19_1.drop 11)) (L2 := bk_19_2) 4 [some (.ref 62), some (.int q2), none, none] [] (cw κ cs q1.1 J q1.2) h (fun _ => rfl) (fun h =>
  tt_R 2 (fun r => (.inl (some (.int r.1)))) (fun r => (cw κ cs r.2.1 J r.2.2)) h (fun _ => rfl)) (fun h =>
  tt_C (L1 := (bk_19_2.drop 3)) 3 [some (.ref 62), some (.int q2), none, none] [] (cw κ cs q1.1 J q1.2) h (fun _ => rfl) (fun _ e => m_72 (d := d + 1) e) fun q3 h =>
  tt_C (L1 := (bk_19_2.drop 7)) 4 [some (.ref 62), some (.int q2), none, none] [] (cw κ cs q3.1 J q3.2) h (fun _ => rfl) (fun _ e => m_23 (d := d + 7) e) fun q4 h =>
  tt_I (L1 := (bk_19_2.drop 11)) (L2 := bk_19_3) 4 [some (.ref 62), some (.int q2), some (.int q4), none] [] (cw κ cs q3.1 J q3.2) h (fun _ => rfl) (fun h =>
  tt_R 2 (fun r => (.inl (some (.int r.1)))) (fun r => (cw κ cs r.2.1 J r.2.2)) h (fun _ => rfl)) (fun h =>
  tt_C (L1 := (bk_19_3.drop 3)) 3 [some (.ref 62), some (.int q2), some (.int q4), none] [] (cw κ cs q3.1 J q3.2) h (fun _ => rfl) (fun _ e => m_72 (d := d + 1) e) fun q5 h =>
  tt_J (L1 := (bk_19_3.drop 7)) 3 [some (.ref 62), some (.int q2), some (.int q4), none] [.ref 13, .ref q5.2] (cw κ cs q5.1 J q5.2) (fun _ => rfl) (
  tt_Aeq h (fun h =>
  tt_C (L1 := (bk_19_4.drop 3)) 3 [some (.ref 62), some (.int q2), some (.int q4), none] [] (cw κ cs q5.1 J q5.2) h (fun _ => rfl) (fun _ e => m_72 (d := d + 1) e) fun q6 h =>
  tt_C (L1 := (bk_19_4.drop 8)) 5 [some (.ref 62), some (.int q2), some (.int q4), none] [] (cw κ cs q6.1 J q6.2) h (fun _ => rfl) (fun _ e => m_25 (d := d) e) fun q7 h =>
  tt_I (L1 := bk_19_5) (L2 := (bk_19_4.drop 11)) 3 [some (.ref 62), some (.int q2), some (.int q4), some (.int q7.1)] [] (cw κ cs q7.2.1 J q7.2.2) h (fun _ => rfl) (fun h =>
  let I8 := putf q7.2.1 65 8 (q7.2.1 62 6) q2
  tt_K (L1 := (bk_19_5.drop 6)) 6 [some (.ref 62), some (.int q2), some (.int q4), some (.int q7.1)] [] (cw κ cs q7.2.1 J q7.2.2) (fun _ => rfl) (m_put 65 8 (q7.2.1 62 6) q2 (Nat.le_of_ble_eq_true rfl) rfl (Nat.le_of_ble_eq_true rfl))
  (let I9 := putf I8 66 8 (I8 62 6) q4
  tt_K (L1 := (bk_19_5.drop 12)) 6 [some (.ref 62), some (.int q2), some (.int q4), some (.int q7.1)] [] (cw κ cs I8 J q7.2.2) (fun _ => rfl) (m_put 66 8 (I8 62 6) q4 (Nat.le_of_ble_eq_true rfl) rfl (Nat.le_of_ble_eq_true rfl))
  (let I10 := up I9 62 6 ((I9 62 6) + (1 : Int32))
  tt_C (L1 := (bk_19_5.drop 20)) 8 [some (.ref 62), some (.int q2), some (.int q4), some (.int q7.1)] [] (cw κ cs I10 J q7.2.2) h (fun _ => rfl) (fun _ e => m_20 (d := d) e) fun q11 h =>
  tt_R 1 (fun r => (.inl (some (.int r.1)))) (fun r => (cw κ cs r.2.1 J r.2.2)) h (fun _ => rfl)))) (fun h =>
  tt_R 2 (fun r => (.inl (some (.int r.1)))) (fun r => (cw κ cs r.2.1 J r.2.2)) h (fun _ => rfl))) (fun h =>
  tt_R 2 (fun r => (.inl (some (.int r.1)))) (fun r => (cw κ cs r.2.1 J r.2.2)) h (fun _ => rfl)))))) (fun h =>
  tt_R 2 (fun r => (.inl (some (.int r.1)))) (fun r => (cw κ cs r.2.1 J r.2.2)) h (fun _ => rfl)))
/- 122 -/
def lb_122_2 (s0 : Int32) : Option Int32 :=
  (if (s0 = 0 ∨ s0 = 1) then some s0 else none)
def lb_122_1 : Option Int32 :=
  (lb_122_2  (0 : Int32) )
def f_122 (x0 : Int32) (x1 : Int32) (x2 : Int32) : Option Int32 :=
  (if x0 < x1 then (lb_122_1   ) else (if x2 < x0 then (lb_122_1   ) else (lb_122_2  (1 : Int32) )))
theorem tl_122_2 {d : Nat} {κ : KT} {cs : Nat × Nat} {I : Nat → Nat → Int32} {J : Nat → Nat → Int64} {W : Nat} (s0 : Int32) (r : Int32) (h : lb_122_2  s0  = some r) : tt d me_122 bk_122_2 [none, none, none] [.int s0] (cw κ cs I J W) (.inl (some (.int r))) (cw κ cs I J W) :=
  tt_B 1 (fun r => (.inl (some (.int r)))) (fun r => (cw κ cs I J W)) h (fun q => Or.inr (Or.inl ⟨rfl, q⟩)) (fun _ => rfl)
theorem tl_122_1 {d : Nat} {κ : KT} {cs : Nat × Nat} {I : Nat → Nat → Int32} {J : Nat → Nat → Int64} {W : Nat} (r : Int32) (h : lb_122_1    = some r) : tt d me_122 bk_122_1 [none, none, none] [] (cw κ cs I J W) (.inl (some (.int r))) (cw κ cs I J W) :=
  tt_J (L1 := bk_122_2) 0 [none, none, none] [.int (0 : Int32)] (cw κ cs I J W) (fun _ => rfl) (tt_F [none, none, none] trivial (tl_122_2  (0 : Int32)  _ h))
theorem m_122 {d : Nat} {κ : KT} {cs : Nat × Nat} {I : Nat → Nat → Int32} {J : Nat → Nat → Int64} {W : Nat} {x0 : Int32} {x1 : Int32} {x2 : Int32} {r : Int32} (h : f_122 x0 x1 x2  = some r) : tm d 122 [.int x0, .int x1, .int x2] (cw κ cs I J W) (.inl (some (.int r))) (cw κ cs I J W) :=
  tm_of me_122 rfl (Nat.le_of_ble_eq_true rfl) (
  tt_I (L1 := bk_122_1) (L2 := (bk_122_0.drop 3)) 3 [some (.int x0), some (.int x1), some (.int x2)] [] (cw κ cs I J W) h (fun _ => rfl) (fun h =>
  tt_F [none, none, none] trivial (tl_122_1    _ h)) (fun h =>
  tt_I (L1 := bk_122_1) (L2 := (bk_122_0.drop 6)) 3 [some (.int x0), some (.int x1), some (.int x2)] [] (cw κ cs I J W) h (fun _ => rfl) (fun h =>
  tt_F [none, none, none] trivial (tl_122_1    _ h)) (fun h =>
  tt_J (L1 := bk_122_2) 1 [some (.int x0), some (.int x1), some (.int x2)] [.int (1 : Int32)] (cw κ cs I J W) (fun _ => rfl) (tt_F [none, none, none] trivial (tl_122_2  (1 : Int32)  _ h)))))
/- 18 -/
def lb_18_1 (I : (Nat → Nat → Int32)) (W : Nat) : Option (Int32 × (Nat → Nat → Int32) × Nat) :=
  (some ((4 : Int32), I, W))
def lb_18_4 (I : (Nat → Nat → Int32)) (W : Nat) : Option (Int32 × (Nat → Nat → Int32) × Nat) :=
  (some ((2 : Int32), I, W))
def f_18 (x1 : Int32) (I : (Nat → Nat → Int32)) (W : Nat) : Option (Int32 × (Nat → Nat → Int32) × Nat) :=
  (if x1 < 0 then (lb_18_1   I W) else (if x1 < (nI 4) then (if ex_in x1 4 then (if (I 64 (x1).toNatClampNeg) = 0 then (if ex_in x1 4 then let I1 := up I 64 (x1).toNatClampNeg (vp_nar .boolean (1 : Int32))
  ((f_72  I1 W).bind fun q2 => (if (q2.1 60 5) = (2 : Int32) then ((f_75  q2.1).bind fun q3 => (if q3 = 0 then ((f_122 (q2.1 60 7) (atf (q2.1 53) 4 x1) (atf (q2.1 54) 4 x1) ).bind fun q4 => (if q4 = 0 then (lb_18_4   q2.1 q2.2) else (let I5 := putf q2.1 63 4 x1 (q2.1 60 7)
  ((f_72  I5 q2.2).bind fun q6 => ((f_20  q6.1 q6.2).bind fun q7 => (some (q7.1, q7.2.1, q7.2.2))))))) else (lb_18_4   q2.1 q2.2))) else (some ((1 : Int32), q2.1, q2.2)))) else none) else (lb_18_1   I W)) else none) else (lb_18_1   I W)))
theorem tl_18_1 {d : Nat} {κ : KT} {cs : Nat × Nat} {J : Nat → Nat → Int64} (I : (Nat → Nat → Int32)) (W : Nat) (r : (Int32 × (Nat → Nat → Int32) × Nat)) (h : lb_18_1   I W = some r) : tt (d + 8) me_18 bk_18_1 [none, none] [] (cw κ cs I J W) (.inl (some (.int r.1))) (cw κ cs r.2.1 J r.2.2) :=
  tt_R 2 (fun r => (.inl (some (.int r.1)))) (fun r => (cw κ cs r.2.1 J r.2.2)) h (fun _ => rfl)
theorem tl_18_4 {d : Nat} {κ : KT} {cs : Nat × Nat} {J : Nat → Nat → Int64} (I : (Nat → Nat → Int32)) (W : Nat) (r : (Int32 × (Nat → Nat → Int32) × Nat)) (h : lb_18_4   I W = some r) : tt (d + 8) me_18 bk_18_4 [none, none] [] (cw κ cs I J W) (.inl (some (.int r.1))) (cw κ cs r.2.1 J r.2.2) :=
  tt_R 2 (fun r => (.inl (some (.int r.1)))) (fun r => (cw κ cs r.2.1 J r.2.2)) h (fun _ => rfl)
theorem m_18 {d : Nat} {κ : KT} {cs : Nat × Nat} {J : Nat → Nat → Int64} {x1 : Int32} {I : (Nat → Nat → Int32)} {W : Nat} {r : (Int32 × (Nat → Nat → Int32) × Nat)} (h : f_18 x1 I W = some r) : tm (d + 8) 18 [.ref 62, .int x1] (cw κ cs I J W) (.inl (some (.int r.1))) (cw κ cs r.2.1 J r.2.2) :=
  tm_of me_18 rfl (Nat.le_of_ble_eq_true rfl) (
  tt_I (L1 := bk_18_1) (L2 := (bk_18_0.drop 2)) 2 [some (.ref 62), some (.int x1)] [] (cw κ cs I J W) h (fun _ => rfl) (fun h =>
  tt_F [none, none] trivial (tl_18_1   I W _ h)) (fun h =>
  tt_I (L1 := (bk_18_0.drop 7)) (L2 := bk_18_1) 5 [some (.ref 62), some (.int x1)] [] (cw κ cs I J W) h (fun _ => rfl) (fun h =>
  tt_J (L1 := (bk_18_0.drop 10)) 2 [some (.ref 62), some (.int x1)] [.int x1, .ref 64] (cw κ cs I J W) (fun _ => rfl) (
  tt_Qz rfl h fun h =>
  tt_I (L1 := bk_18_2) (L2 := bk_18_1) 1 [some (.ref 62), some (.int x1)] [] (cw κ cs I J W) h (fun _ => rfl) (fun h =>
  let I1 := up I 64 (x1).toNatClampNeg (vp_nar .boolean (1 : Int32))
  tt_J (L1 := (bk_18_2.drop 4)) 3 [some (.ref 62), some (.int x1)] [.int (1 : Int32), .int x1, .ref 64] (cw κ cs I J W) (fun _ => rfl) (
  tt_Wz rfl (Nat.le_of_ble_eq_true rfl) h fun h =>
  tt_C (L1 := (bk_18_2.drop 8)) 3 [some (.ref 62), some (.int x1)] [] (cw κ cs I1 J W) h (fun _ => rfl) (fun _ e => m_72 (d := d + 1) e) fun q2 h =>
  tt_I (L1 := bk_18_3) (L2 := (bk_18_2.drop 13)) 5 [some (.ref 62), some (.int x1)] [] (cw κ cs q2.1 J q2.2) h (fun _ => rfl) (fun h =>
  tt_C (L1 := (bk_18_3.drop 3)) 3 [some (.ref 62), some (.int x1)] [] (cw κ cs q2.1 J q2.2) h (fun _ => rfl) (fun _ e => m_75 (d := d + 7) e) fun q3 h =>
  tt_I (L1 := (bk_18_3.drop 4)) (L2 := bk_18_4) 1 [some (.ref 62), some (.int x1)] [] (cw κ cs q2.1 J q2.2) h (fun _ => rfl) (fun h =>
  tt_K (L1 := (bk_18_3.drop 10)) 6 [some (.ref 62), some (.int x1)] [.int (q2.1 60 7)] (cw κ cs q2.1 J q2.2) (fun _ => rfl) (m_at 53 4 x1 (Nat.le_of_ble_eq_true rfl) rfl)
  (tt_K (L1 := (bk_18_3.drop 13)) 3 [some (.ref 62), some (.int x1)] [.int (atf (q2.1 53) 4 x1), .int (q2.1 60 7)] (cw κ cs q2.1 J q2.2) (fun _ => rfl) (m_at 54 4 x1 (Nat.le_of_ble_eq_true rfl) rfl)
  (tt_C (L1 := (bk_18_3.drop 14)) 1 [some (.ref 62), some (.int x1)] [] (cw κ cs q2.1 J q2.2) h (fun _ => rfl) (fun _ e => m_122 (d := d + 7) e) fun q4 h =>
  tt_I (L1 := bk_18_4) (L2 := bk_18_5) 1 [some (.ref 62), some (.int x1)] [] (cw κ cs q2.1 J q2.2) h (fun _ => rfl) (fun h =>
  tt_F [none, none] trivial (tl_18_4   q2.1 q2.2 _ h)) (fun h =>
  let I5 := putf q2.1 63 4 x1 (q2.1 60 7)
  tt_K (L1 := (bk_18_5.drop 7)) 7 [some (.ref 62), some (.int x1)] [] (cw κ cs q2.1 J q2.2) (fun _ => rfl) (m_put 63 4 x1 (q2.1 60 7) (Nat.le_of_ble_eq_true rfl) rfl (Nat.le_of_ble_eq_true rfl))
  (tt_C (L1 := (bk_18_5.drop 10)) 3 [some (.ref 62), some (.int x1)] [] (cw κ cs I5 J q2.2) h (fun _ => rfl) (fun _ e => m_72 (d := d + 1) e) fun q6 h =>
  tt_C (L1 := (bk_18_5.drop 12)) 2 [some (.ref 62), some (.int x1)] [] (cw κ cs q6.1 J q6.2) h (fun _ => rfl) (fun _ e => m_20 (d := d) e) fun q7 h =>
  tt_R 1 (fun r => (.inl (some (.int r.1)))) (fun r => (cw κ cs r.2.1 J r.2.2)) h (fun _ => rfl)))))) (fun h =>
  tt_F [none, none] trivial (tl_18_4   q2.1 q2.2 _ h))) (fun h =>
  tt_R 2 (fun r => (.inl (some (.int r.1)))) (fun r => (cw κ cs r.2.1 J r.2.2)) h (fun _ => rfl)))) (fun h =>
  tt_F [none, none] trivial (tl_18_1   I W _ h)))) (fun h =>
  tt_F [none, none] trivial (tl_18_1   I W _ h))))
/- 17 -/
def lb_17_9 (x2 : Int32) (s1 : Int32) (I : (Nat → Nat → Int32)) (W : Nat) : Option (Int32 × (Nat → Nat → Int32) × Nat) :=
  (let I3 := up I 62 7 s1
  (some (x2, I3, W)))
def lb_17_7 (x2 : Int32) (I : (Nat → Nat → Int32)) (W : Nat) : Option (Int32 × (Nat → Nat → Int32) × Nat) :=
  (if x2 = 0 then (lb_17_9  x2 ((-1) : Int32) I W) else (lb_17_9  x2 (I 60 4) I W))
def lb_17_6 (x2 : Int32) (I : (Nat → Nat → Int32)) (W : Nat) : Option (Int32 × (Nat → Nat → Int32) × Nat) :=
  (if x2 = 0 then (if (atf (I 63) 4 (0 : Int32)) < (atf (I 63) 4 (1 : Int32)) then (lb_17_7  (5 : Int32) I W) else (lb_17_7  x2 I W)) else (lb_17_7  x2 I W))
def lb_17_5 (c1 : Int32 → Int32 → (Nat → Nat → Int32) → Nat → Option (Int32 × (Nat → Nat → Int32) × Nat)) (x2 : Int32) (x3 : Int32) (I : (Nat → Nat → Int32)) (W : Nat) : Option (Int32 × (Nat → Nat → Int32) × Nat) :=
  (c1 x2 (x3 + (1 : Int32)) I W)
def lb_17_4 (c1 : Int32 → Int32 → (Nat → Nat → Int32) → Nat → Option (Int32 × (Nat → Nat → Int32) × Nat)) (x3 : Int32) (s0 : Int32) (I : (Nat → Nat → Int32)) (W : Nat) : Option (Int32 × (Nat → Nat → Int32) × Nat) :=
  (lb_17_5 c1 s0 x3 I W)
def bd_17_1 (c1 : Int32 → Int32 → (Nat → Nat → Int32) → Nat → Option (Int32 × (Nat → Nat → Int32) × Nat)) (x2 : Int32) (x3 : Int32) (I : (Nat → Nat → Int32)) (W : Nat) : Option (Int32 × (Nat → Nat → Int32) × Nat) :=
  (if x3 < (500 : Int32) then (if x2 = 0 then (if (I 60 5) = 0 then (lb_17_6  x2 I W) else ((f_21 W ).bind fun q4 => (if q4 = ((-1) : Int32) then (if isw W ∧ isw 5 then (if W = 5 then ((f_19  I W).bind fun q5 => (lb_17_4 c1 x3 q5.1 q5.2.1 q5.2.2)) else (lb_17_4 c1 x3 (1 : Int32) I W)) else none) else ((f_18 q4 I W).bind fun q6 => (lb_17_5 c1 q6.1 x3 q6.2.1 q6.2.2))))) else (lb_17_6  x2 I W)) else (lb_17_6  x2 I W))
def lb_17_1 : Int32 → Int32 → (Nat → Nat → Int32) → Nat → Option (Int32 × (Nat → Nat → Int32) × Nat) := fx (fun _ _ _ _ => none) (bd_17_1 ) FU
def f_17 (x1 : Int32) (I : (Nat → Nat → Int32)) (W : Nat) : Option (Int32 × (Nat → Nat → Int32) × Nat) :=
  ((f_16  I).bind fun q1 => ((f_71 x1 q1 W).bind fun q2 => (lb_17_1  (0 : Int32) (0 : Int32) q2.1 q2.2)))
theorem tl_17_9 {d : Nat} {κ : KT} {cs : Nat × Nat} {J : Nat → Nat → Int64} (x2 : Int32) (s1 : Int32) (I : (Nat → Nat → Int32)) (W : Nat) (r : (Int32 × (Nat → Nat → Int32) × Nat)) (h : lb_17_9  x2 s1 I W = some r) : tt (d + 9) me_17 bk_17_9 [none, none, some (.int x2), none, none] [.int s1, .ref 62] (cw κ cs I J W) (.inl (some (.int r.1))) (cw κ cs r.2.1 J r.2.2) :=
  let I3 := up I 62 7 s1
  tt_R 3 (fun r => (.inl (some (.int r.1)))) (fun r => (cw κ cs r.2.1 J r.2.2)) h (fun _ => rfl)
theorem tl_17_7 {d : Nat} {κ : KT} {cs : Nat × Nat} {J : Nat → Nat → Int64} (x2 : Int32) (I : (Nat → Nat → Int32)) (W : Nat) (r : (Int32 × (Nat → Nat → Int32) × Nat)) (h : lb_17_7  x2 I W = some r) : tt (d + 9) me_17 bk_17_7 [some (.ref 62), none, some (.int x2), none, none] [] (cw κ cs I J W) (.inl (some (.int r.1))) (cw κ cs r.2.1 J r.2.2) :=
  tt_I (L1 := (bk_17_7.drop 3)) (L2 := bk_17_8) 3 [some (.ref 62), none, some (.int x2), none, none] [.ref 62] (cw κ cs I J W) h (fun _ => rfl) (fun h =>
  tt_J (L1 := bk_17_9) 1 [some (.ref 62), none, some (.int x2), none, none] [.int ((-1) : Int32), .ref 62] (cw κ cs I J W) (fun _ => rfl) (tt_F [none, none, some (.int x2), none, none] (And.intro rfl trivial) (tl_17_9  x2 ((-1) : Int32) I W _ h))) (fun h =>
  tt_J (L1 := bk_17_9) 2 [some (.ref 62), none, some (.int x2), none, none] [.int (I 60 4), .ref 62] (cw κ cs I J W) (fun _ => rfl) (tt_F [none, none, some (.int x2), none, none] (And.intro rfl trivial) (tl_17_9  x2 (I 60 4) I W _ h)))
theorem tl_17_6 {d : Nat} {κ : KT} {cs : Nat × Nat} {J : Nat → Nat → Int64} (x2 : Int32) (I : (Nat → Nat → Int32)) (W : Nat) (r : (Int32 × (Nat → Nat → Int32) × Nat)) (h : lb_17_6  x2 I W = some r) : tt (d + 9) me_17 bk_17_6 [some (.ref 62), none, some (.int x2), none, none] [] (cw κ cs I J W) (.inl (some (.int r.1))) (cw κ cs r.2.1 J r.2.2) :=
  tt_I (L1 := (bk_17_6.drop 2)) (L2 := bk_17_7) 2 [some (.ref 62), none, some (.int x2), none, none] [] (cw κ cs I J W) h (fun _ => rfl) (fun h =>
  tt_K (L1 := (bk_17_6.drop 6)) 4 [some (.ref 62), none, some (.int x2), none, none] [] (cw κ cs I J W) (fun _ => rfl) (m_at 63 4 (1 : Int32) (Nat.le_of_ble_eq_true rfl) rfl)
  (tt_K (L1 := (bk_17_6.drop 10)) 4 [some (.ref 62), none, some (.int x2), none, none] [.int (atf (I 63) 4 (1 : Int32))] (cw κ cs I J W) (fun _ => rfl) (m_at 63 4 (0 : Int32) (Nat.le_of_ble_eq_true rfl) rfl)
  (tt_I (L1 := (bk_17_6.drop 11)) (L2 := bk_17_7) 1 [some (.ref 62), none, some (.int x2), none, none] [] (cw κ cs I J W) h (fun _ => rfl) (fun h =>
  tt_J (L1 := bk_17_7) 1 [some (.ref 62), none, some (.int (5 : Int32)), none, none] [] (cw κ cs I J W) (fun _ => rfl) (tt_F [some (.ref 62), none, some (.int (5 : Int32)), none, none] (And.intro rfl (And.intro rfl trivial)) (tl_17_7  (5 : Int32) I W _ h))) (fun h =>
  tt_F [some (.ref 62), none, some (.int x2), none, none] (And.intro rfl (And.intro rfl trivial)) (tl_17_7  x2 I W _ h))))) (fun h =>
  tt_F [some (.ref 62), none, some (.int x2), none, none] (And.intro rfl (And.intro rfl trivial)) (tl_17_7  x2 I W _ h))
theorem tl_17_5 {d : Nat} {κ : KT} {cs : Nat × Nat} {J : Nat → Nat → Int64} (c1 : Int32 → Int32 → (Nat → Nat → Int32) → Nat → Option (Int32 × (Nat → Nat → Int32) × Nat)) (k1 : ∀ (x2 : Int32) (x3 : Int32) (I : (Nat → Nat → Int32)) (W : Nat) (r : (Int32 × (Nat → Nat → Int32) × Nat)), c1 x2 x3 I W = some r → tt (d + 9) me_17 bk_17_1 [some (.ref 62), none, some (.int x2), some (.int x3), none] [] (cw κ cs I J W) (.inl (some (.int r.1))) (cw κ cs r.2.1 J r.2.2)) (x2 : Int32) (x3 : Int32) (I : (Nat → Nat → Int32)) (W : Nat) (r : (Int32 × (Nat → Nat → Int32) × Nat)) (h : lb_17_5 c1 x2 x3 I W = some r) : tt (d + 9) me_17 bk_17_5 [some (.ref 62), none, some (.int x2), some (.int x3), none] [] (cw κ cs I J W) (.inl (some (.int r.1))) (cw κ cs r.2.1 J r.2.2) :=
  tt_J (L1 := bk_17_1) 1 [some (.ref 62), none, some (.int x2), some (.int (x3 + (1 : Int32))), none] [] (cw κ cs I J W) (fun _ => rfl) (tt_F [some (.ref 62), none, some (.int x2), some (.int (x3 + (1 : Int32))), none] (And.intro rfl (And.intro rfl (And.intro rfl trivial))) (k1 x2 (x3 + (1 : Int32)) I W _ h))
theorem tl_17_4 {d : Nat} {κ : KT} {cs : Nat × Nat} {J : Nat → Nat → Int64} (c1 : Int32 → Int32 → (Nat → Nat → Int32) → Nat → Option (Int32 × (Nat → Nat → Int32) × Nat)) (k1 : ∀ (x2 : Int32) (x3 : Int32) (I : (Nat → Nat → Int32)) (W : Nat) (r : (Int32 × (Nat → Nat → Int32) × Nat)), c1 x2 x3 I W = some r → tt (d + 9) me_17 bk_17_1 [some (.ref 62), none, some (.int x2), some (.int x3), none] [] (cw κ cs I J W) (.inl (some (.int r.1))) (cw κ cs r.2.1 J r.2.2)) (x3 : Int32) (s0 : Int32) (I : (Nat → Nat → Int32)) (W : Nat) (r : (Int32 × (Nat → Nat → Int32) × Nat)) (h : lb_17_4 c1 x3 s0 I W = some r) : tt (d + 9) me_17 bk_17_4 [some (.ref 62), none, none, some (.int x3), none] [.int s0] (cw κ cs I J W) (.inl (some (.int r.1))) (cw κ cs r.2.1 J r.2.2) :=
  tt_J (L1 := bk_17_5) 0 [some (.ref 62), none, some (.int s0), some (.int x3), none] [] (cw κ cs I J W) (fun _ => rfl) (tt_F [some (.ref 62), none, some (.int s0), some (.int x3), none] (And.intro rfl (And.intro rfl (And.intro rfl trivial))) (tl_17_5 c1 k1 s0 x3 I W _ h))
theorem tb_17_1 {d : Nat} {κ : KT} {cs : Nat × Nat} {J : Nat → Nat → Int64} (c1 : Int32 → Int32 → (Nat → Nat → Int32) → Nat → Option (Int32 × (Nat → Nat → Int32) × Nat)) (k1 : ∀ (x2 : Int32) (x3 : Int32) (I : (Nat → Nat → Int32)) (W : Nat) (r : (Int32 × (Nat → Nat → Int32) × Nat)), c1 x2 x3 I W = some r → tt (d + 9) me_17 bk_17_1 [some (.ref 62), none, some (.int x2), some (.int x3), none] [] (cw κ cs I J W) (.inl (some (.int r.1))) (cw κ cs r.2.1 J r.2.2)) (x2 : Int32) (x3 : Int32) (I : (Nat → Nat → Int32)) (W : Nat) (r : (Int32 × (Nat → Nat → Int32) × Nat)) (h : bd_17_1  c1 x2 x3 I W = some r) : tt (d + 9) me_17 bk_17_1 [some (.ref 62), none, some (.int x2), some (.int x3), none] [] (cw κ cs I J W) (.inl (some (.int r.1))) (cw κ cs r.2.1 J r.2.2) :=
  tt_I (L1 := (bk_17_1.drop 3)) (L2 := bk_17_6) 3 [some (.ref 62), none, some (.int x2), some (.int x3), none] [] (cw κ cs I J W) h (fun _ => rfl) (fun h =>
  tt_I (L1 := (bk_17_1.drop 5)) (L2 := bk_17_6) 2 [some (.ref 62), none, some (.int x2), some (.int x3), none] [] (cw κ cs I J W) h (fun _ => rfl) (fun h =>
  tt_I (L1 := bk_17_6) (L2 := (bk_17_1.drop 9)) 4 [some (.ref 62), none, some (.int x2), some (.int x3), none] [] (cw κ cs I J W) h (fun _ => rfl) (fun h =>
  tt_F [some (.ref 62), none, some (.int x2), none, none] (And.intro rfl (And.intro rfl trivial)) (tl_17_6  x2 I W _ h)) (fun h =>
  tt_C (L1 := (bk_17_1.drop 13)) 4 [some (.ref 62), none, some (.int x2), some (.int x3), none] [] (cw κ cs I J W) h (fun _ => rfl) (fun _ e => m_21 (d := d + 8) e) fun q4 h =>
  tt_I (L1 := bk_17_2) (L2 := (bk_17_1.drop 17)) 4 [some (.ref 62), none, some (.int x2), some (.int x3), some (.int q4)] [] (cw κ cs I J W) h (fun _ => rfl) (fun h =>
  tt_J (L1 := (bk_17_2.drop 4)) 3 [some (.ref 62), none, some (.int x2), some (.int x3), some (.int q4)] [.ref 5, .ref W] (cw κ cs I J W) (fun _ => rfl) (
  tt_Ane h (fun h =>
  tt_C (L1 := (bk_17_2.drop 7)) 2 [some (.ref 62), none, some (.int x2), some (.int x3), some (.int q4)] [] (cw κ cs I J W) h (fun _ => rfl) (fun _ e => m_19 (d := d) e) fun q5 h =>
  tt_J (L1 := bk_17_4) 0 [some (.ref 62), none, some (.int x2), some (.int x3), some (.int q4)] [.int q5.1] (cw κ cs q5.2.1 J q5.2.2) (fun _ => rfl) (tt_F [some (.ref 62), none, none, some (.int x3), none] (And.intro rfl (And.intro rfl trivial)) (tl_17_4 c1 k1 x3 q5.1 q5.2.1 q5.2.2 _ h))) (fun h =>
  tt_J (L1 := bk_17_4) 0 [some (.ref 62), none, some (.int x2), some (.int x3), some (.int q4)] [.int (1 : Int32)] (cw κ cs I J W) (fun _ => rfl) (tt_F [some (.ref 62), none, none, some (.int x3), none] (And.intro rfl (And.intro rfl trivial)) (tl_17_4 c1 k1 x3 (1 : Int32) I W _ h))))) (fun h =>
  tt_C (L1 := (bk_17_1.drop 20)) 3 [some (.ref 62), none, some (.int x2), some (.int x3), some (.int q4)] [] (cw κ cs I J W) h (fun _ => rfl) (fun _ e => m_18 (d := d) e) fun q6 h =>
  tt_J (L1 := bk_17_5) 1 [some (.ref 62), none, some (.int q6.1), some (.int x3), some (.int q4)] [] (cw κ cs q6.2.1 J q6.2.2) (fun _ => rfl) (tt_F [some (.ref 62), none, some (.int q6.1), some (.int x3), none] (And.intro rfl (And.intro rfl (And.intro rfl trivial))) (tl_17_5 c1 k1 q6.1 x3 q6.2.1 q6.2.2 _ h))))) (fun h =>
  tt_F [some (.ref 62), none, some (.int x2), none, none] (And.intro rfl (And.intro rfl trivial)) (tl_17_6  x2 I W _ h))) (fun h =>
  tt_F [some (.ref 62), none, some (.int x2), none, none] (And.intro rfl (And.intro rfl trivial)) (tl_17_6  x2 I W _ h))
theorem tn_17_1 {d : Nat} {κ : KT} {cs : Nat × Nat} {J : Nat → Nat → Int64} : ∀ (n : Nat) (x2 : Int32) (x3 : Int32) (I : (Nat → Nat → Int32)) (W : Nat) (r : (Int32 × (Nat → Nat → Int32) × Nat)), fx (fun _ _ _ _ => none) (bd_17_1 ) n x2 x3 I W = some r → tt (d + 9) me_17 bk_17_1 [some (.ref 62), none, some (.int x2), some (.int x3), none] [] (cw κ cs I J W) (.inl (some (.int r.1))) (cw κ cs r.2.1 J r.2.2)
  | 0 => fun _ _ _ _ _ h => nomatch h
  | n + 1 => fun x2 x3 I W r h => tb_17_1  (fx _ (bd_17_1 ) n) (tn_17_1  n) x2 x3 I W r h
theorem tl_17_1 {d : Nat} {κ : KT} {cs : Nat × Nat} {J : Nat → Nat → Int64} (x2 : Int32) (x3 : Int32) (I : (Nat → Nat → Int32)) (W : Nat) (r : (Int32 × (Nat → Nat → Int32) × Nat)) (h : lb_17_1  x2 x3 I W = some r) : tt (d + 9) me_17 bk_17_1 [some (.ref 62), none, some (.int x2), some (.int x3), none] [] (cw κ cs I J W) (.inl (some (.int r.1))) (cw κ cs r.2.1 J r.2.2) := tn_17_1  FU x2 x3 I W r h
theorem m_17 {d : Nat} {κ : KT} {cs : Nat × Nat} {J : Nat → Nat → Int64} {x1 : Int32} {I : (Nat → Nat → Int32)} {W : Nat} {r : (Int32 × (Nat → Nat → Int32) × Nat)} (h : f_17 x1 I W = some r) : tm (d + 9) 17 [.ref 62, .int x1] (cw κ cs I J W) (.inl (some (.int r.1))) (cw κ cs r.2.1 J r.2.2) :=
  tm_of me_17 rfl (Nat.le_of_ble_eq_true rfl) (
  tt_C (L1 := (bk_17_0.drop 2)) 2 [some (.ref 62), some (.int x1), none, none, none] [] (cw κ cs I J W) h (fun _ => rfl) (fun _ e => m_16 (d := d + 6) e) fun q1 h =>
  tt_C (L1 := (bk_17_0.drop 6)) 4 [some (.ref 62), some (.int x1), none, none, none] [] (cw κ cs q1 J W) h (fun _ => rfl) (fun _ e => m_71 (d := d + 1) e) fun q2 h =>
  tt_J (L1 := bk_17_1) 3 [some (.ref 62), some (.int x1), some (.int (0 : Int32)), some (.int (0 : Int32)), none] [] (cw κ cs q2.1 J q2.2) (fun _ => rfl) (tt_F [some (.ref 62), none, some (.int (0 : Int32)), some (.int (0 : Int32)), none] (And.intro rfl (And.intro rfl (And.intro rfl trivial))) (tl_17_1  (0 : Int32) (0 : Int32) q2.1 q2.2 _ h)))
/- 42 -/
def f_42 (x1 : Int32) (x2 : Int32) (I : (Nat → Nat → Int32)) : Option (Nat → Nat → Int32) :=
  (let I1 := putf I 72 6 (((-1) : Int32) - x1) x2
  (some I1))
theorem m_42 {d : Nat} {κ : KT} {cs : Nat × Nat} {J : Nat → Nat → Int64} {W : Nat} {x1 : Int32} {x2 : Int32} {I : (Nat → Nat → Int32)} {r : (Nat → Nat → Int32)} (h : f_42 x1 x2 I = some r) : tm (d + 1) 42 [.ref 67, .int x1, .int x2] (cw κ cs I J W) (.inl none) (cw κ cs r J W) :=
  tm_of me_42 rfl (Nat.le_of_ble_eq_true rfl) (
  let I1 := putf I 72 6 (((-1) : Int32) - x1) x2
  tt_K (L1 := (bk_42_0.drop 7)) 7 [some (.ref 67), some (.int x1), some (.int x2)] [] (cw κ cs I J W) (fun _ => rfl) (m_put 72 6 (((-1) : Int32) - x1) x2 (Nat.le_of_ble_eq_true rfl) rfl (Nat.le_of_ble_eq_true rfl))
  (tt_R 1 (fun r => (.inl none)) (fun r => (cw κ cs r J W)) h (fun _ => rfl)))
/- 45 -/
def lb_45_2 (s0 : Int32) : Option Int32 :=
  (some s0)
def f_45 (x0 : Int32) : Option Int32 :=
  (if x0 = 0 then (lb_45_2  (0 : Int32) ) else (lb_45_2  (1 : Int32) ))
theorem tl_45_2 {d : Nat} {κ : KT} {cs : Nat × Nat} {I : Nat → Nat → Int32} {J : Nat → Nat → Int64} {W : Nat} (s0 : Int32) (r : Int32) (h : lb_45_2  s0  = some r) : tt d me_45 bk_45_2 [none] [.int s0] (cw κ cs I J W) (.inl (some (.int r))) (cw κ cs I J W) :=
  tt_R 1 (fun r => (.inl (some (.int r)))) (fun r => (cw κ cs I J W)) h (fun _ => rfl)
theorem m_45 {d : Nat} {κ : KT} {cs : Nat × Nat} {I : Nat → Nat → Int32} {J : Nat → Nat → Int64} {W : Nat} {x0 : Int32} {r : Int32} (h : f_45 x0  = some r) : tm d 45 [.int x0] (cw κ cs I J W) (.inl (some (.int r))) (cw κ cs I J W) :=
  tm_of me_45 rfl (Nat.le_of_ble_eq_true rfl) (
  tt_I (L1 := bk_45_1) (L2 := (bk_45_0.drop 2)) 2 [some (.int x0)] [] (cw κ cs I J W) h (fun _ => rfl) (fun h =>
  tt_J (L1 := bk_45_2) 0 [some (.int x0)] [.int (0 : Int32)] (cw κ cs I J W) (fun _ => rfl) (tt_F [none] trivial (tl_45_2  (0 : Int32)  _ h))) (fun h =>
  tt_J (L1 := bk_45_2) 1 [some (.int x0)] [.int (1 : Int32)] (cw κ cs I J W) (fun _ => rfl) (tt_F [none] trivial (tl_45_2  (1 : Int32)  _ h))))
/- 44 -/
def lb_44_13 (s0 : Int32) : Option Int32 :=
  ((f_45 s0 ).bind fun q1 => (some q1))
def lb_44_10 (s0 : Int32) : Option Int32 :=
  ((f_45 s0 ).bind fun q2 => (some q2))
def lb_44_19 (s0 : Int32) : Option Int32 :=
  (some s0)
def lb_44_7 (s0 : Int32) : Option Int32 :=
  ((f_45 s0 ).bind fun q3 => (some q3))
def lb_44_6 : Option Int32 :=
  (lb_44_7  (0 : Int32) )
def lb_44_4 (s0 : Int32) : Option Int32 :=
  ((f_45 s0 ).bind fun q4 => (some q4))
def lb_44_2 : Option Int32 :=
  (lb_44_4  (1 : Int32) )
def f_44 (x0 : Int32) (x1 : Int32) (x2 : Int32) : Option Int32 :=
  (if x0 = ((-14) : Int32) then (some (x1 * x2)) else (if x0 = ((-13) : Int32) then (some (x1 - x2)) else (if x0 = ((-12) : Int32) then (some (x1 + x2)) else (if x0 = ((-11) : Int32) then (if x1 = x2 then (lb_44_13  (1 : Int32) ) else (lb_44_13  (0 : Int32) )) else (if x0 = ((-10) : Int32) then (if x1 < x2 then (lb_44_10  (1 : Int32) ) else (lb_44_10  (0 : Int32) )) else (if x0 = ((-9) : Int32) then (if x2 = 0 then (lb_44_19  (0 : Int32) ) else (if x2 = 0 then none else (lb_44_19  (x1 / x2) ))) else (if x0 = ((-8) : Int32) then (if x1 = 0 then (lb_44_6   ) else (if x2 = 0 then (lb_44_6   ) else (lb_44_7  (1 : Int32) ))) else (if x0 = ((-7) : Int32) then (if x1 = 0 then (if x2 = 0 then (lb_44_4  (0 : Int32) ) else (lb_44_2   )) else (lb_44_2   )) else (if x2 = 0 then (lb_44_19  (0 : Int32) ) else (if x2 = 0 then none else (lb_44_19  (x1 / x2) )))))))))))
theorem tl_44_13 {d : Nat} {κ : KT} {cs : Nat × Nat} {I : Nat → Nat → Int32} {J : Nat → Nat → Int64} {W : Nat} (s0 : Int32) (r : Int32) (h : lb_44_13  s0  = some r) : tt (d + 1) me_44 bk_44_13 [none, none, none] [.int s0] (cw κ cs I J W) (.inl (some (.int r))) (cw κ cs I J W) :=
  tt_C (L1 := (bk_44_13.drop 1)) 1 [none, none, none] [] (cw κ cs I J W) h (fun _ => rfl) (fun _ e => m_45 (d := d) e) fun q1 h =>
  tt_R 1 (fun r => (.inl (some (.int r)))) (fun r => (cw κ cs I J W)) h (fun _ => rfl)
theorem tl_44_10 {d : Nat} {κ : KT} {cs : Nat × Nat} {I : Nat → Nat → Int32} {J : Nat → Nat → Int64} {W : Nat} (s0 : Int32) (r : Int32) (h : lb_44_10  s0  = some r) : tt (d + 1) me_44 bk_44_10 [none, none, none] [.int s0] (cw κ cs I J W) (.inl (some (.int r))) (cw κ cs I J W) :=
  tt_C (L1 := (bk_44_10.drop 1)) 1 [none, none, none] [] (cw κ cs I J W) h (fun _ => rfl) (fun _ e => m_45 (d := d) e) fun q2 h =>
  tt_R 1 (fun r => (.inl (some (.int r)))) (fun r => (cw κ cs I J W)) h (fun _ => rfl)
theorem tl_44_19 {d : Nat} {κ : KT} {cs : Nat × Nat} {I : Nat → Nat → Int32} {J : Nat → Nat → Int64} {W : Nat} (s0 : Int32) (r : Int32) (h : lb_44_19  s0  = some r) : tt (d + 1) me_44 bk_44_19 [none, none, none] [.int s0] (cw κ cs I J W) (.inl (some (.int r))) (cw κ cs I J W) :=
  tt_R 1 (fun r => (.inl (some (.int r)))) (fun r => (cw κ cs I J W)) h (fun _ => rfl)
theorem tl_44_7 {d : Nat} {κ : KT} {cs : Nat × Nat} {I : Nat → Nat → Int32} {J : Nat → Nat → Int64} {W : Nat} (s0 : Int32) (r : Int32) (h : lb_44_7  s0  = some r) : tt (d + 1) me_44 bk_44_7 [none, none, none] [.int s0] (cw κ cs I J W) (.inl (some (.int r))) (cw κ cs I J W) :=
  tt_C (L1 := (bk_44_7.drop 1)) 1 [none, none, none] [] (cw κ cs I J W) h (fun _ => rfl) (fun _ e => m_45 (d := d) e) fun q3 h =>
  tt_R 1 (fun r => (.inl (some (.int r)))) (fun r => (cw κ cs I J W)) h (fun _ => rfl)
theorem tl_44_6 {d : Nat} {κ : KT} {cs : Nat × Nat} {I : Nat → Nat → Int32} {J : Nat → Nat → Int64} {W : Nat} (r : Int32) (h : lb_44_6    = some r) : tt (d + 1) me_44 bk_44_6 [none, none, none] [] (cw κ cs I J W) (.inl (some (.int r))) (cw κ cs I J W) :=
  tt_J (L1 := bk_44_7) 0 [none, none, none] [.int (0 : Int32)] (cw κ cs I J W) (fun _ => rfl) (tt_F [none, none, none] trivial (tl_44_7  (0 : Int32)  _ h))
theorem tl_44_4 {d : Nat} {κ : KT} {cs : Nat × Nat} {I : Nat → Nat → Int32} {J : Nat → Nat → Int64} {W : Nat} (s0 : Int32) (r : Int32) (h : lb_44_4  s0  = some r) : tt (d + 1) me_44 bk_44_4 [none, none, none] [.int s0] (cw κ cs I J W) (.inl (some (.int r))) (cw κ cs I J W) :=
  tt_C (L1 := (bk_44_4.drop 1)) 1 [none, none, none] [] (cw κ cs I J W) h (fun _ => rfl) (fun _ e => m_45 (d := d) e) fun q4 h =>
  tt_R 1 (fun r => (.inl (some (.int r)))) (fun r => (cw κ cs I J W)) h (fun _ => rfl)
theorem tl_44_2 {d : Nat} {κ : KT} {cs : Nat × Nat} {I : Nat → Nat → Int32} {J : Nat → Nat → Int64} {W : Nat} (r : Int32) (h : lb_44_2    = some r) : tt (d + 1) me_44 bk_44_2 [none, none, none] [] (cw κ cs I J W) (.inl (some (.int r))) (cw κ cs I J W) :=
  tt_J (L1 := bk_44_4) 1 [none, none, none] [.int (1 : Int32)] (cw κ cs I J W) (fun _ => rfl) (tt_F [none, none, none] trivial (tl_44_4  (1 : Int32)  _ h))
theorem m_44 {d : Nat} {κ : KT} {cs : Nat × Nat} {I : Nat → Nat → Int32} {J : Nat → Nat → Int64} {W : Nat} {x0 : Int32} {x1 : Int32} {x2 : Int32} {r : Int32} (h : f_44 x0 x1 x2  = some r) : tm (d + 1) 44 [.int x0, .int x1, .int x2] (cw κ cs I J W) (.inl (some (.int r))) (cw κ cs I J W) :=
  tm_of me_44 rfl (Nat.le_of_ble_eq_true rfl) (
  tt_J (L1 := (bk_44_0.drop 1)) 0 [some (.int x0), some (.int x1), some (.int x2)] [.int x0] (cw κ cs I J W) (fun _ => rfl) (
  tt_T (L1 := bk_44_16) ((-14) : Int32) h (fun _ => rfl) (fun h =>
  tt_R 4 (fun r => (.inl (some (.int r)))) (fun r => (cw κ cs I J W)) h (fun _ => rfl)) (fun e0 h =>
  tt_T (L1 := bk_44_15) ((-13) : Int32) h (fun _ => rfl) (fun h =>
  tt_R 4 (fun r => (.inl (some (.int r)))) (fun r => (cw κ cs I J W)) h (fun _ => rfl)) (fun e1 h =>
  tt_T (L1 := bk_44_14) ((-12) : Int32) h (fun _ => rfl) (fun h =>
  tt_R 4 (fun r => (.inl (some (.int r)))) (fun r => (cw κ cs I J W)) h (fun _ => rfl)) (fun e2 h =>
  tt_T (L1 := bk_44_11) ((-11) : Int32) h (fun _ => rfl) (fun h =>
  tt_I (L1 := (bk_44_11.drop 3)) (L2 := bk_44_12) 3 [some (.int x0), some (.int x1), some (.int x2)] [] (cw κ cs I J W) h (fun _ => rfl) (fun h =>
  tt_J (L1 := bk_44_13) 1 [some (.int x0), some (.int x1), some (.int x2)] [.int (1 : Int32)] (cw κ cs I J W) (fun _ => rfl) (tt_F [none, none, none] trivial (tl_44_13  (1 : Int32)  _ h))) (fun h =>
  tt_J (L1 := bk_44_13) 0 [some (.int x0), some (.int x1), some (.int x2)] [.int (0 : Int32)] (cw κ cs I J W) (fun _ => rfl) (tt_F [none, none, none] trivial (tl_44_13  (0 : Int32)  _ h)))) (fun e3 h =>
  tt_T (L1 := bk_44_8) ((-10) : Int32) h (fun _ => rfl) (fun h =>
  tt_I (L1 := (bk_44_8.drop 3)) (L2 := bk_44_9) 3 [some (.int x0), some (.int x1), some (.int x2)] [] (cw κ cs I J W) h (fun _ => rfl) (fun h =>
  tt_J (L1 := bk_44_10) 1 [some (.int x0), some (.int x1), some (.int x2)] [.int (1 : Int32)] (cw κ cs I J W) (fun _ => rfl) (tt_F [none, none, none] trivial (tl_44_10  (1 : Int32)  _ h))) (fun h =>
  tt_J (L1 := bk_44_10) 0 [some (.int x0), some (.int x1), some (.int x2)] [.int (0 : Int32)] (cw κ cs I J W) (fun _ => rfl) (tt_F [none, none, none] trivial (tl_44_10  (0 : Int32)  _ h)))) (fun e4 h =>
  tt_T (L1 := bk_44_17) ((-9) : Int32) h (fun _ => rfl) (fun h =>
  tt_I (L1 := bk_44_18) (L2 := (bk_44_17.drop 2)) 2 [some (.int x0), some (.int x1), some (.int x2)] [] (cw κ cs I J W) h (fun _ => rfl) (fun h =>
  tt_J (L1 := bk_44_19) 0 [some (.int x0), some (.int x1), some (.int x2)] [.int (0 : Int32)] (cw κ cs I J W) (fun _ => rfl) (tt_F [none, none, none] trivial (tl_44_19  (0 : Int32)  _ h))) (fun h =>
  tt_J (L1 := (bk_44_17.drop 4)) 1 [some (.int x0), some (.int x1), some (.int x2)] [.int x2, .int x1] (cw κ cs I J W) (fun _ => rfl) (
  tt_Di h fun h =>
  tt_J (L1 := bk_44_19) 0 [some (.int x0), some (.int x1), some (.int x2)] [.int (x1 / x2)] (cw κ cs I J W) (fun _ => rfl) (tt_F [none, none, none] trivial (tl_44_19  (x1 / x2)  _ h))))) (fun e5 h =>
  tt_T (L1 := bk_44_5) ((-8) : Int32) h (fun _ => rfl) (fun h =>
  tt_I (L1 := bk_44_6) (L2 := (bk_44_5.drop 2)) 2 [some (.int x0), some (.int x1), some (.int x2)] [] (cw κ cs I J W) h (fun _ => rfl) (fun h =>
  tt_F [none, none, none] trivial (tl_44_6    _ h)) (fun h =>
  tt_I (L1 := bk_44_6) (L2 := (bk_44_5.drop 4)) 2 [some (.int x0), some (.int x1), some (.int x2)] [] (cw κ cs I J W) h (fun _ => rfl) (fun h =>
  tt_F [none, none, none] trivial (tl_44_6    _ h)) (fun h =>
  tt_J (L1 := bk_44_7) 1 [some (.int x0), some (.int x1), some (.int x2)] [.int (1 : Int32)] (cw κ cs I J W) (fun _ => rfl) (tt_F [none, none, none] trivial (tl_44_7  (1 : Int32)  _ h))))) (fun e6 h =>
  tt_T (L1 := bk_44_1) ((-7) : Int32) h (fun _ => rfl) (fun h =>
  tt_I (L1 := (bk_44_1.drop 2)) (L2 := bk_44_2) 2 [some (.int x0), some (.int x1), some (.int x2)] [] (cw κ cs I J W) h (fun _ => rfl) (fun h =>
  tt_I (L1 := bk_44_3) (L2 := bk_44_2) 2 [some (.int x0), some (.int x1), some (.int x2)] [] (cw κ cs I J W) h (fun _ => rfl) (fun h =>
  tt_J (L1 := bk_44_4) 0 [some (.int x0), some (.int x1), some (.int x2)] [.int (0 : Int32)] (cw κ cs I J W) (fun _ => rfl) (tt_F [none, none, none] trivial (tl_44_4  (0 : Int32)  _ h))) (fun h =>
  tt_F [none, none, none] trivial (tl_44_2    _ h))) (fun h =>
  tt_F [none, none, none] trivial (tl_44_2    _ h))) (fun e7 h =>
  tt_T0 (by have e0 := nev e0 (show (((-14) : Int32)).toInt = -14 from rfl); have e1 := nev e1 (show (((-13) : Int32)).toInt = -13 from rfl); have e2 := nev e2 (show (((-12) : Int32)).toInt = -12 from rfl); have e3 := nev e3 (show (((-11) : Int32)).toInt = -11 from rfl); have e4 := nev e4 (show (((-10) : Int32)).toInt = -10 from rfl); have e5 := nev e5 (show (((-9) : Int32)).toInt = -9 from rfl); have e6 := nev e6 (show (((-8) : Int32)).toInt = -8 from rfl); have e7 := nev e7 (show (((-7) : Int32)).toInt = -7 from rfl); omega) (
  tt_I (L1 := bk_44_18) (L2 := (bk_44_17.drop 2)) 2 [some (.int x0), some (.int x1), some (.int x2)] [] (cw κ cs I J W) h (fun _ => rfl) (fun h =>
  tt_J (L1 := bk_44_19) 0 [some (.int x0), some (.int x1), some (.int x2)] [.int (0 : Int32)] (cw κ cs I J W) (fun _ => rfl) (tt_F [none, none, none] trivial (tl_44_19  (0 : Int32)  _ h))) (fun h =>
  tt_J (L1 := (bk_44_17.drop 4)) 1 [some (.int x0), some (.int x1), some (.int x2)] [.int x2, .int x1] (cw κ cs I J W) (fun _ => rfl) (
  tt_Di h fun h =>
  tt_J (L1 := bk_44_19) 0 [some (.int x0), some (.int x1), some (.int x2)] [.int (x1 / x2)] (cw κ cs I J W) (fun _ => rfl) (tt_F [none, none, none] trivial (tl_44_19  (x1 / x2)  _ h)))))))))))))))
/- 43 -/
def lb_43_9 (c3 : Int32 → Int32 → Int32 → (Nat → Nat → Int32) → Option (Int32 × (Nat → Nat → Int32))) (x1 : Int32) (x2 : Int32) (x3 : Int32) (I : (Nat → Nat → Int32)) : Option (Int32 × (Nat → Nat → Int32)) :=
  (c3 x1 x2 (x3 + (1 : Int32)) I)
def lb_43_7 (c3 : Int32 → Int32 → Int32 → (Nat → Nat → Int32) → Option (Int32 × (Nat → Nat → Int32))) (x1 : Int32) (x2 : Int32) (x3 : Int32) (s1 : Int32) (s2 : Int32) (I : (Nat → Nat → Int32)) : Option (Int32 × (Nat → Nat → Int32)) :=
  ((f_45 s2 ).bind fun q3 => (let I4 := putf I 73 50 s1 q3
  (lb_43_9 c3 x1 x2 x3 I4)))
def bd_43_3 (c3 : Int32 → Int32 → Int32 → (Nat → Nat → Int32) → Option (Int32 × (Nat → Nat → Int32))) (x1 : Int32) (x2 : Int32) (x3 : Int32) (I : (Nat → Nat → Int32)) : Option (Int32 × (Nat → Nat → Int32)) :=
  (if x3 < (atf (I 69) 8 x1) then (if (atf (I 68) 500 x3) < 0 then (if (atf (I 68) 500 x3) < ((-6) : Int32) then (if (atf (I 68) 500 x3) = ((-9) : Int32) then (if (atf (I 73) 50 (x2 - (1 : Int32))) = 0 then (lb_43_7 c3 x1 x2 x3 (x2 - (1 : Int32)) (1 : Int32) I) else (lb_43_7 c3 x1 x2 x3 (x2 - (1 : Int32)) (0 : Int32) I)) else ((f_44 (atf (I 68) 500 x3) (atf (I 73) 50 ((x2 + ((-1) : Int32)) - (1 : Int32))) (atf (I 73) 50 (x2 + ((-1) : Int32))) ).bind fun q1 => (let I2 := putf I 73 50 ((x2 + ((-1) : Int32)) - (1 : Int32)) q1
  (lb_43_9 c3 x1 (x2 + ((-1) : Int32)) x3 I2)))) else (let I5 := putf I 73 50 x2 (atf (I 72) 6 (((-1) : Int32) - (atf (I 68) 500 x3)))
  (lb_43_9 c3 x1 (x2 + (1 : Int32)) x3 I5))) else (let I6 := putf I 73 50 x2 (atf (I 68) 500 x3)
  (lb_43_9 c3 x1 (x2 + (1 : Int32)) x3 I6))) else (some ((atf (I 73) 50 (0 : Int32)), I)))
def lb_43_3 : Int32 → Int32 → Int32 → (Nat → Nat → Int32) → Option (Int32 × (Nat → Nat → Int32)) := fx (fun _ _ _ _ => none) (bd_43_3 ) FU
def lb_43_2 (x1 : Int32) (x2 : Int32) (s0 : Int32) (I : (Nat → Nat → Int32)) : Option (Int32 × (Nat → Nat → Int32)) :=
  (lb_43_3  x1 x2 s0 I)
def f_43 (x1 : Int32) (I : (Nat → Nat → Int32)) : Option (Int32 × (Nat → Nat → Int32)) :=
  (if 0 < x1 then (lb_43_2  x1 (0 : Int32) (atf (I 69) 8 (x1 - (1 : Int32))) I) else (lb_43_2  x1 (0 : Int32) (0 : Int32) I))
theorem tl_43_9 {d : Nat} {κ : KT} {cs : Nat × Nat} {J : Nat → Nat → Int64} {W : Nat} (c3 : Int32 → Int32 → Int32 → (Nat → Nat → Int32) → Option (Int32 × (Nat → Nat → Int32))) (k3 : ∀ (x1 : Int32) (x2 : Int32) (x3 : Int32) (I : (Nat → Nat → Int32)) (r : (Int32 × (Nat → Nat → Int32))), c3 x1 x2 x3 I = some r → tt (d + 2) me_43 bk_43_3 [some (.ref 67), some (.int x1), some (.int x2), some (.int x3), none] [] (cw κ cs I J W) (.inl (some (.int r.1))) (cw κ cs r.2 J W)) (x1 : Int32) (x2 : Int32) (x3 : Int32) (I : (Nat → Nat → Int32)) (r : (Int32 × (Nat → Nat → Int32))) (h : lb_43_9 c3 x1 x2 x3 I = some r) : tt (d + 2) me_43 bk_43_9 [some (.ref 67), some (.int x1), some (.int x2), some (.int x3), none] [] (cw κ cs I J W) (.inl (some (.int r.1))) (cw κ cs r.2 J W) :=
  tt_J (L1 := bk_43_3) 1 [some (.ref 67), some (.int x1), some (.int x2), some (.int (x3 + (1 : Int32))), none] [] (cw κ cs I J W) (fun _ => rfl) (tt_F [some (.ref 67), some (.int x1), some (.int x2), some (.int (x3 + (1 : Int32))), none] (And.intro rfl (And.intro rfl (And.intro rfl (And.intro rfl trivial)))) (k3 x1 x2 (x3 + (1 : Int32)) I _ h))
theorem tl_43_7 {d : Nat} {κ : KT} {cs : Nat × Nat} {J : Nat → Nat → Int64} {W : Nat} (c3 : Int32 → Int32 → Int32 → (Nat → Nat → Int32) → Option (Int32 × (Nat → Nat → Int32))) (k3 : ∀ (x1 : Int32) (x2 : Int32) (x3 : Int32) (I : (Nat → Nat → Int32)) (r : (Int32 × (Nat → Nat → Int32))), c3 x1 x2 x3 I = some r → tt (d + 2) me_43 bk_43_3 [some (.ref 67), some (.int x1), some (.int x2), some (.int x3), none] [] (cw κ cs I J W) (.inl (some (.int r.1))) (cw κ cs r.2 J W)) (x1 : Int32) (x2 : Int32) (x3 : Int32) (s1 : Int32) (s2 : Int32) (I : (Nat → Nat → Int32)) (r : (Int32 × (Nat → Nat → Int32))) (h : lb_43_7 c3 x1 x2 x3 s1 s2 I = some r) : tt (d + 2) me_43 bk_43_7 [some (.ref 67), some (.int x1), some (.int x2), some (.int x3), none] [.int s2, .int s1, .ref 73] (cw κ cs I J W) (.inl (some (.int r.1))) (cw κ cs r.2 J W) :=
  tt_C (L1 := (bk_43_7.drop 1)) 1 [some (.ref 67), some (.int x1), some (.int x2), some (.int x3), none] [.int s1, .ref 73] (cw κ cs I J W) h (fun _ => rfl) (fun _ e => m_45 (d := d + 1) e) fun q3 h =>
  let I4 := putf I 73 50 s1 q3
  tt_K (L1 := (bk_43_7.drop 2)) 1 [some (.ref 67), some (.int x1), some (.int x2), some (.int x3), none] [] (cw κ cs I J W) (fun _ => rfl) (m_put 73 50 s1 q3 (Nat.le_of_ble_eq_true rfl) rfl (Nat.le_of_ble_eq_true rfl))
  (tt_J (L1 := bk_43_9) 0 [some (.ref 67), some (.int x1), some (.int x2), some (.int x3), none] [] (cw κ cs I4 J W) (fun _ => rfl) (tt_F [some (.ref 67), some (.int x1), some (.int x2), some (.int x3), none] (And.intro rfl (And.intro rfl (And.intro rfl (And.intro rfl trivial)))) (tl_43_9 c3 k3 x1 x2 x3 I4 _ h)))
theorem tb_43_3 {d : Nat} {κ : KT} {cs : Nat × Nat} {J : Nat → Nat → Int64} {W : Nat} (c3 : Int32 → Int32 → Int32 → (Nat → Nat → Int32) → Option (Int32 × (Nat → Nat → Int32))) (k3 : ∀ (x1 : Int32) (x2 : Int32) (x3 : Int32) (I : (Nat → Nat → Int32)) (r : (Int32 × (Nat → Nat → Int32))), c3 x1 x2 x3 I = some r → tt (d + 2) me_43 bk_43_3 [some (.ref 67), some (.int x1), some (.int x2), some (.int x3), none] [] (cw κ cs I J W) (.inl (some (.int r.1))) (cw κ cs r.2 J W)) (x1 : Int32) (x2 : Int32) (x3 : Int32) (I : (Nat → Nat → Int32)) (r : (Int32 × (Nat → Nat → Int32))) (h : bd_43_3  c3 x1 x2 x3 I = some r) : tt (d + 2) me_43 bk_43_3 [some (.ref 67), some (.int x1), some (.int x2), some (.int x3), none] [] (cw κ cs I J W) (.inl (some (.int r.1))) (cw κ cs r.2 J W) :=
  tt_K (L1 := (bk_43_3.drop 5)) 5 [some (.ref 67), some (.int x1), some (.int x2), some (.int x3), none] [.int x3] (cw κ cs I J W) (fun _ => rfl) (m_at 69 8 x1 (Nat.le_of_ble_eq_true rfl) rfl)
  (tt_I (L1 := (bk_43_3.drop 6)) (L2 := bk_43_10) 1 [some (.ref 67), some (.int x1), some (.int x2), some (.int x3), none] [] (cw κ cs I J W) h (fun _ => rfl) (fun h =>
  tt_K (L1 := (bk_43_3.drop 10)) 4 [some (.ref 67), some (.int x1), some (.int x2), some (.int x3), none] [] (cw κ cs I J W) (fun _ => rfl) (m_at 68 500 x3 (Nat.le_of_ble_eq_true rfl) rfl)
  (tt_I (L1 := bk_43_4) (L2 := (bk_43_3.drop 13)) 3 [some (.ref 67), some (.int x1), some (.int x2), some (.int x3), some (.int (atf (I 68) 500 x3))] [] (cw κ cs I J W) h (fun _ => rfl) (fun h =>
  tt_I (L1 := bk_43_5) (L2 := (bk_43_4.drop 3)) 3 [some (.ref 67), some (.int x1), some (.int x2), some (.int x3), some (.int (atf (I 68) 500 x3))] [] (cw κ cs I J W) h (fun _ => rfl) (fun h =>
  tt_I (L1 := (bk_43_5.drop 3)) (L2 := bk_43_8) 3 [some (.ref 67), some (.int x1), some (.int x2), some (.int x3), some (.int (atf (I 68) 500 x3))] [] (cw κ cs I J W) h (fun _ => rfl) (fun h =>
  tt_K (L1 := (bk_43_5.drop 14)) 11 [some (.ref 67), some (.int x1), some (.int x2), some (.int x3), some (.int (atf (I 68) 500 x3))] [.int (x2 - (1 : Int32)), .ref 73] (cw κ cs I J W) (fun _ => rfl) (m_at 73 50 (x2 - (1 : Int32)) (Nat.le_of_ble_eq_true rfl) rfl)
  (tt_I (L1 := (bk_43_5.drop 15)) (L2 := bk_43_6) 1 [some (.ref 67), some (.int x1), some (.int x2), some (.int x3), some (.int (atf (I 68) 500 x3))] [.int (x2 - (1 : Int32)), .ref 73] (cw κ cs I J W) h (fun _ => rfl) (fun h =>
  tt_J (L1 := bk_43_7) 1 [some (.ref 67), some (.int x1), some (.int x2), some (.int x3), some (.int (atf (I 68) 500 x3))] [.int (1 : Int32), .int (x2 - (1 : Int32)), .ref 73] (cw κ cs I J W) (fun _ => rfl) (tt_F [some (.ref 67), some (.int x1), some (.int x2), some (.int x3), none] (And.intro rfl (And.intro rfl (And.intro rfl (And.intro rfl trivial)))) (tl_43_7 c3 k3 x1 x2 x3 (x2 - (1 : Int32)) (1 : Int32) I _ h))) (fun h =>
  tt_J (L1 := bk_43_7) 0 [some (.ref 67), some (.int x1), some (.int x2), some (.int x3), some (.int (atf (I 68) 500 x3))] [.int (0 : Int32), .int (x2 - (1 : Int32)), .ref 73] (cw κ cs I J W) (fun _ => rfl) (tt_F [some (.ref 67), some (.int x1), some (.int x2), some (.int x3), none] (And.intro rfl (And.intro rfl (And.intro rfl (And.intro rfl trivial)))) (tl_43_7 c3 k3 x1 x2 x3 (x2 - (1 : Int32)) (0 : Int32) I _ h))))) (fun h =>
  tt_K (L1 := (bk_43_8.drop 13)) 13 [some (.ref 67), some (.int x1), some (.int (x2 + ((-1) : Int32))), some (.int x3), some (.int (atf (I 68) 500 x3))] [.int (atf (I 68) 500 x3), .int ((x2 + ((-1) : Int32)) - (1 : Int32)), .ref 73] (cw κ cs I J W) (fun _ => rfl) (m_at 73 50 ((x2 + ((-1) : Int32)) - (1 : Int32)) (Nat.le_of_ble_eq_true rfl) rfl)
  (tt_K (L1 := (bk_43_8.drop 17)) 4 [some (.ref 67), some (.int x1), some (.int (x2 + ((-1) : Int32))), some (.int x3), some (.int (atf (I 68) 500 x3))] [.int (atf (I 73) 50 ((x2 + ((-1) : Int32)) - (1 : Int32))), .int (atf (I 68) 500 x3), .int ((x2 + ((-1) : Int32)) - (1 : Int32)), .ref 73] (cw κ cs I J W) (fun _ => rfl) (m_at 73 50 (x2 + ((-1) : Int32)) (Nat.le_of_ble_eq_true rfl) rfl)
  (tt_C (L1 := (bk_43_8.drop 18)) 1 [some (.ref 67), some (.int x1), some (.int (x2 + ((-1) : Int32))), some (.int x3), some (.int (atf (I 68) 500 x3))] [.int ((x2 + ((-1) : Int32)) - (1 : Int32)), .ref 73] (cw κ cs I J W) h (fun _ => rfl) (fun _ e => m_44 (d := d) e) fun q1 h =>
  let I2 := putf I 73 50 ((x2 + ((-1) : Int32)) - (1 : Int32)) q1
  tt_K (L1 := bk_43_9) 1 [some (.ref 67), some (.int x1), some (.int (x2 + ((-1) : Int32))), some (.int x3), some (.int (atf (I 68) 500 x3))] [] (cw κ cs I J W) (fun _ => rfl) (m_put 73 50 ((x2 + ((-1) : Int32)) - (1 : Int32)) q1 (Nat.le_of_ble_eq_true rfl) rfl (Nat.le_of_ble_eq_true rfl))
  (tt_F [some (.ref 67), some (.int x1), some (.int (x2 + ((-1) : Int32))), some (.int x3), none] (And.intro rfl (And.intro rfl (And.intro rfl (And.intro rfl trivial)))) (tl_43_9 c3 k3 x1 (x2 + ((-1) : Int32)) x3 I2 _ h)))))) (fun h =>
  tt_K (L1 := (bk_43_4.drop 12)) 9 [some (.ref 67), some (.int x1), some (.int x2), some (.int x3), some (.int (atf (I 68) 500 x3))] [.int x2, .ref 73] (cw κ cs I J W) (fun _ => rfl) (m_at 72 6 (((-1) : Int32) - (atf (I 68) 500 x3)) (Nat.le_of_ble_eq_true rfl) rfl)
  (let I5 := putf I 73 50 x2 (atf (I 72) 6 (((-1) : Int32) - (atf (I 68) 500 x3)))
  tt_K (L1 := (bk_43_4.drop 13)) 1 [some (.ref 67), some (.int x1), some (.int x2), some (.int x3), some (.int (atf (I 68) 500 x3))] [] (cw κ cs I J W) (fun _ => rfl) (m_put 73 50 x2 (atf (I 72) 6 (((-1) : Int32) - (atf (I 68) 500 x3))) (Nat.le_of_ble_eq_true rfl) rfl (Nat.le_of_ble_eq_true rfl))
  (tt_J (L1 := bk_43_9) 1 [some (.ref 67), some (.int x1), some (.int (x2 + (1 : Int32))), some (.int x3), some (.int (atf (I 68) 500 x3))] [] (cw κ cs I5 J W) (fun _ => rfl) (tt_F [some (.ref 67), some (.int x1), some (.int (x2 + (1 : Int32))), some (.int x3), none] (And.intro rfl (And.intro rfl (And.intro rfl (And.intro rfl trivial)))) (tl_43_9 c3 k3 x1 (x2 + (1 : Int32)) x3 I5 _ h)))))) (fun h =>
  let I6 := putf I 73 50 x2 (atf (I 68) 500 x3)
  tt_K (L1 := (bk_43_3.drop 18)) 5 [some (.ref 67), some (.int x1), some (.int x2), some (.int x3), some (.int (atf (I 68) 500 x3))] [] (cw κ cs I J W) (fun _ => rfl) (m_put 73 50 x2 (atf (I 68) 500 x3) (Nat.le_of_ble_eq_true rfl) rfl (Nat.le_of_ble_eq_true rfl))
  (tt_J (L1 := bk_43_9) 1 [some (.ref 67), some (.int x1), some (.int (x2 + (1 : Int32))), some (.int x3), some (.int (atf (I 68) 500 x3))] [] (cw κ cs I6 J W) (fun _ => rfl) (tt_F [some (.ref 67), some (.int x1), some (.int (x2 + (1 : Int32))), some (.int x3), none] (And.intro rfl (And.intro rfl (And.intro rfl (And.intro rfl trivial)))) (tl_43_9 c3 k3 x1 (x2 + (1 : Int32)) x3 I6 _ h)))))) (fun h =>
  tt_K (L1 := (bk_43_10.drop 4)) 4 [some (.ref 67), some (.int x1), some (.int x2), some (.int x3), none] [] (cw κ cs I J W) (fun _ => rfl) (m_at 73 50 (0 : Int32) (Nat.le_of_ble_eq_true rfl) rfl)
  (tt_R 1 (fun r => (.inl (some (.int r.1)))) (fun r => (cw κ cs r.2 J W)) h (fun _ => rfl))))
theorem tn_43_3 {d : Nat} {κ : KT} {cs : Nat × Nat} {J : Nat → Nat → Int64} {W : Nat} : ∀ (n : Nat) (x1 : Int32) (x2 : Int32) (x3 : Int32) (I : (Nat → Nat → Int32)) (r : (Int32 × (Nat → Nat → Int32))), fx (fun _ _ _ _ => none) (bd_43_3 ) n x1 x2 x3 I = some r → tt (d + 2) me_43 bk_43_3 [some (.ref 67), some (.int x1), some (.int x2), some (.int x3), none] [] (cw κ cs I J W) (.inl (some (.int r.1))) (cw κ cs r.2 J W)
  | 0 => fun _ _ _ _ _ h => nomatch h
  | n + 1 => fun x1 x2 x3 I r h => tb_43_3  (fx _ (bd_43_3 ) n) (tn_43_3  n) x1 x2 x3 I r h
theorem tl_43_3 {d : Nat} {κ : KT} {cs : Nat × Nat} {J : Nat → Nat → Int64} {W : Nat} (x1 : Int32) (x2 : Int32) (x3 : Int32) (I : (Nat → Nat → Int32)) (r : (Int32 × (Nat → Nat → Int32))) (h : lb_43_3  x1 x2 x3 I = some r) : tt (d + 2) me_43 bk_43_3 [some (.ref 67), some (.int x1), some (.int x2), some (.int x3), none] [] (cw κ cs I J W) (.inl (some (.int r.1))) (cw κ cs r.2 J W) := tn_43_3  FU x1 x2 x3 I r h
theorem tl_43_2 {d : Nat} {κ : KT} {cs : Nat × Nat} {J : Nat → Nat → Int64} {W : Nat} (x1 : Int32) (x2 : Int32) (s0 : Int32) (I : (Nat → Nat → Int32)) (r : (Int32 × (Nat → Nat → Int32))) (h : lb_43_2  x1 x2 s0 I = some r) : tt (d + 2) me_43 bk_43_2 [some (.ref 67), some (.int x1), some (.int x2), none, none] [.int s0] (cw κ cs I J W) (.inl (some (.int r.1))) (cw κ cs r.2 J W) :=
  tt_J (L1 := bk_43_3) 0 [some (.ref 67), some (.int x1), some (.int x2), some (.int s0), none] [] (cw κ cs I J W) (fun _ => rfl) (tt_F [some (.ref 67), some (.int x1), some (.int x2), some (.int s0), none] (And.intro rfl (And.intro rfl (And.intro rfl (And.intro rfl trivial)))) (tl_43_3  x1 x2 s0 I _ h))
theorem m_43 {d : Nat} {κ : KT} {cs : Nat × Nat} {J : Nat → Nat → Int64} {W : Nat} {x1 : Int32} {I : (Nat → Nat → Int32)} {r : (Int32 × (Nat → Nat → Int32))} (h : f_43 x1 I = some r) : tm (d + 2) 43 [.ref 67, .int x1] (cw κ cs I J W) (.inl (some (.int r.1))) (cw κ cs r.2 J W) :=
  tm_of me_43 rfl (Nat.le_of_ble_eq_true rfl) (
  tt_I (L1 := (bk_43_0.drop 4)) (L2 := bk_43_1) 4 [some (.ref 67), some (.int x1), some (.int (0 : Int32)), none, none] [] (cw κ cs I J W) h (fun _ => rfl) (fun h =>
  tt_K (L1 := (bk_43_0.drop 10)) 6 [some (.ref 67), some (.int x1), some (.int (0 : Int32)), none, none] [] (cw κ cs I J W) (fun _ => rfl) (m_at 69 8 (x1 - (1 : Int32)) (Nat.le_of_ble_eq_true rfl) rfl)
  (tt_J (L1 := bk_43_2) 0 [some (.ref 67), some (.int x1), some (.int (0 : Int32)), none, none] [.int (atf (I 69) 8 (x1 - (1 : Int32)))] (cw κ cs I J W) (fun _ => rfl) (tt_F [some (.ref 67), some (.int x1), some (.int (0 : Int32)), none, none] (And.intro rfl (And.intro rfl (And.intro rfl trivial))) (tl_43_2  x1 (0 : Int32) (atf (I 69) 8 (x1 - (1 : Int32))) I _ h)))) (fun h =>
  tt_J (L1 := bk_43_2) 0 [some (.ref 67), some (.int x1), some (.int (0 : Int32)), none, none] [.int (0 : Int32)] (cw κ cs I J W) (fun _ => rfl) (tt_F [some (.ref 67), some (.int x1), some (.int (0 : Int32)), none, none] (And.intro rfl (And.intro rfl (And.intro rfl trivial))) (tl_43_2  x1 (0 : Int32) (0 : Int32) I _ h))))
/- 49 -/
def bd_49_1 (c1 : Int32 → (Nat → Nat → Int32) → Option (Nat → Nat → Int32)) (x1 : Int32) (I : (Nat → Nat → Int32)) : Option (Nat → Nat → Int32) :=
  (if x1 < (I 79 5) then (let I4 := putf I 82 48 x1 ((I 79 5) / (2 : Int32))
  (c1 (x1 + (1 : Int32)) I4)) else (some I))
def lb_49_1 : Int32 → (Nat → Nat → Int32) → Option (Nat → Nat → Int32) := fx (fun _ _ => none) (bd_49_1 ) FU
def f_49 (I : (Nat → Nat → Int32)) : Option (Nat → Nat → Int32) :=
  (let I1 := up I 79 9 (1 : Int32)
  (let I2 := putf I1 80 8 (0 : Int32) (0 : Int32)
  (let I3 := putf I2 81 8 (0 : Int32) (1 : Int32)
  (lb_49_1  (0 : Int32) I3))))
theorem tb_49_1 {d : Nat} {κ : KT} {cs : Nat × Nat} {J : Nat → Nat → Int64} {W : Nat} (c1 : Int32 → (Nat → Nat → Int32) → Option (Nat → Nat → Int32)) (k1 : ∀ (x1 : Int32) (I : (Nat → Nat → Int32)) (r : (Nat → Nat → Int32)), c1 x1 I = some r → tt (d + 1) me_49 bk_49_1 [some (.ref 79), some (.int x1)] [] (cw κ cs I J W) (.inl none) (cw κ cs r J W)) (x1 : Int32) (I : (Nat → Nat → Int32)) (r : (Nat → Nat → Int32)) (h : bd_49_1  c1 x1 I = some r) : tt (d + 1) me_49 bk_49_1 [some (.ref 79), some (.int x1)] [] (cw κ cs I J W) (.inl none) (cw κ cs r J W) :=
  tt_I (L1 := (bk_49_1.drop 4)) (L2 := bk_49_2) 4 [some (.ref 79), some (.int x1)] [] (cw κ cs I J W) h (fun _ => rfl) (fun h =>
  let I4 := putf I 82 48 x1 ((I 79 5) / (2 : Int32))
  tt_K (L1 := (bk_49_1.drop 12)) 8 [some (.ref 79), some (.int x1)] [] (cw κ cs I J W) (fun _ => rfl) (m_put 82 48 x1 ((I 79 5) / (2 : Int32)) (Nat.le_of_ble_eq_true rfl) rfl (Nat.le_of_ble_eq_true rfl))
  (tt_J (L1 := bk_49_1) 1 [some (.ref 79), some (.int (x1 + (1 : Int32)))] [] (cw κ cs I4 J W) (fun _ => rfl) (tt_F [some (.ref 79), some (.int (x1 + (1 : Int32)))] (And.intro rfl (And.intro rfl trivial)) (k1 (x1 + (1 : Int32)) I4 _ h)))) (fun h =>
  tt_R 1 (fun r => (.inl none)) (fun r => (cw κ cs r J W)) h (fun _ => rfl))
theorem tn_49_1 {d : Nat} {κ : KT} {cs : Nat × Nat} {J : Nat → Nat → Int64} {W : Nat} : ∀ (n : Nat) (x1 : Int32) (I : (Nat → Nat → Int32)) (r : (Nat → Nat → Int32)), fx (fun _ _ => none) (bd_49_1 ) n x1 I = some r → tt (d + 1) me_49 bk_49_1 [some (.ref 79), some (.int x1)] [] (cw κ cs I J W) (.inl none) (cw κ cs r J W)
  | 0 => fun _ _ _ h => nomatch h
  | n + 1 => fun x1 I r h => tb_49_1  (fx _ (bd_49_1 ) n) (tn_49_1  n) x1 I r h
theorem tl_49_1 {d : Nat} {κ : KT} {cs : Nat × Nat} {J : Nat → Nat → Int64} {W : Nat} (x1 : Int32) (I : (Nat → Nat → Int32)) (r : (Nat → Nat → Int32)) (h : lb_49_1  x1 I = some r) : tt (d + 1) me_49 bk_49_1 [some (.ref 79), some (.int x1)] [] (cw κ cs I J W) (.inl none) (cw κ cs r J W) := tn_49_1  FU x1 I r h
theorem m_49 {d : Nat} {κ : KT} {cs : Nat × Nat} {J : Nat → Nat → Int64} {W : Nat} {I : (Nat → Nat → Int32)} {r : (Nat → Nat → Int32)} (h : f_49  I = some r) : tm (d + 1) 49 [.ref 79] (cw κ cs I J W) (.inl none) (cw κ cs r J W) :=
  tm_of me_49 rfl (Nat.le_of_ble_eq_true rfl) (
  let I1 := up I 79 9 (1 : Int32)
  let I2 := putf I1 80 8 (0 : Int32) (0 : Int32)
  tt_K (L1 := (bk_49_0.drop 8)) 8 [some (.ref 79), none] [] (cw κ cs I1 J W) (fun _ => rfl) (m_put 80 8 (0 : Int32) (0 : Int32) (Nat.le_of_ble_eq_true rfl) rfl (Nat.le_of_ble_eq_true rfl))
  (let I3 := putf I2 81 8 (0 : Int32) (1 : Int32)
  tt_K (L1 := (bk_49_0.drop 13)) 5 [some (.ref 79), none] [] (cw κ cs I2 J W) (fun _ => rfl) (m_put 81 8 (0 : Int32) (1 : Int32) (Nat.le_of_ble_eq_true rfl) rfl (Nat.le_of_ble_eq_true rfl))
  (tt_J (L1 := bk_49_1) 1 [some (.ref 79), some (.int (0 : Int32))] [] (cw κ cs I3 J W) (fun _ => rfl) (tt_F [some (.ref 79), some (.int (0 : Int32))] (And.intro rfl (And.intro rfl trivial)) (tl_49_1  (0 : Int32) I3 _ h)))))
/- 54 -/
def f_54 (x1 : Int32) (x2 : Int32) (I : (Nat → Nat → Int32)) : Option Int32 :=
  ((f_125 x1 (I 79 9) ).bind fun q1 => (some (atf (I 83) 480 ((q1 * (60 : Int32)) + x2))))
theorem m_54 {d : Nat} {κ : KT} {cs : Nat × Nat} {J : Nat → Nat → Int64} {W : Nat} {x1 : Int32} {x2 : Int32} {I : (Nat → Nat → Int32)} {r : Int32} (h : f_54 x1 x2 I = some r) : tm (d + 2) 54 [.ref 79, .int x1, .int x2] (cw κ cs I J W) (.inl (some (.int r))) (cw κ cs I J W) :=
  tm_of me_54 rfl (Nat.le_of_ble_eq_true rfl) (
  tt_C (L1 := (bk_54_0.drop 6)) 6 [some (.ref 79), some (.int x1), some (.int x2)] [.ref 83] (cw κ cs I J W) h (fun _ => rfl) (fun _ e => m_125 (d := d) e) fun q1 h =>
  tt_K (L1 := (bk_54_0.drop 11)) 5 [some (.ref 79), some (.int x1), some (.int x2)] [] (cw κ cs I J W) (fun _ => rfl) (m_at 83 480 ((q1 * (60 : Int32)) + x2) (Nat.le_of_ble_eq_true rfl) rfl)
  (tt_R 1 (fun r => (.inl (some (.int r)))) (fun r => (cw κ cs I J W)) h (fun _ => rfl)))
/- 55 -/
def bd_55_1 (c1 : Int32 → Int32 → Int32 → (Nat → Nat → Int32) → Option Int32) (x2 : Int32) (x3 : Int32) (x4 : Int32) (I : (Nat → Nat → Int32)) : Option Int32 :=
  (if x4 < x2 then ((f_54 x4 x3 I).bind fun q1 => (c1 x2 q1 (x4 + (1 : Int32)) I)) else (some x3))
def lb_55_1 : Int32 → Int32 → Int32 → (Nat → Nat → Int32) → Option Int32 := fx (fun _ _ _ _ => none) (bd_55_1 ) FU
def f_55 (x1 : Int32) (x2 : Int32) (I : (Nat → Nat → Int32)) : Option Int32 :=
  (lb_55_1  x2 x1 (0 : Int32) I)
theorem tb_55_1 {d : Nat} {κ : KT} {cs : Nat × Nat} {J : Nat → Nat → Int64} {W : Nat} (c1 : Int32 → Int32 → Int32 → (Nat → Nat → Int32) → Option Int32) (k1 : ∀ (x2 : Int32) (x3 : Int32) (x4 : Int32) (I : (Nat → Nat → Int32)) (r : Int32), c1 x2 x3 x4 I = some r → tt (d + 3) me_55 bk_55_1 [some (.ref 79), none, some (.int x2), some (.int x3), some (.int x4)] [] (cw κ cs I J W) (.inl (some (.int r))) (cw κ cs I J W)) (x2 : Int32) (x3 : Int32) (x4 : Int32) (I : (Nat → Nat → Int32)) (r : Int32) (h : bd_55_1  c1 x2 x3 x4 I = some r) : tt (d + 3) me_55 bk_55_1 [some (.ref 79), none, some (.int x2), some (.int x3), some (.int x4)] [] (cw κ cs I J W) (.inl (some (.int r))) (cw κ cs I J W) :=
  tt_I (L1 := (bk_55_1.drop 3)) (L2 := bk_55_2) 3 [some (.ref 79), none, some (.int x2), some (.int x3), some (.int x4)] [] (cw κ cs I J W) h (fun _ => rfl) (fun h =>
  tt_C (L1 := (bk_55_1.drop 7)) 4 [some (.ref 79), none, some (.int x2), some (.int x3), some (.int x4)] [] (cw κ cs I J W) h (fun _ => rfl) (fun _ e => m_54 (d := d) e) fun q1 h =>
  tt_J (L1 := bk_55_1) 2 [some (.ref 79), none, some (.int x2), some (.int q1), some (.int (x4 + (1 : Int32)))] [] (cw κ cs I J W) (fun _ => rfl) (tt_F [some (.ref 79), none, some (.int x2), some (.int q1), some (.int (x4 + (1 : Int32)))] (And.intro rfl (And.intro rfl (And.intro rfl (And.intro rfl trivial)))) (k1 x2 q1 (x4 + (1 : Int32)) I _ h))) (fun h =>
  tt_R 2 (fun r => (.inl (some (.int r)))) (fun r => (cw κ cs I J W)) h (fun _ => rfl))
theorem tn_55_1 {d : Nat} {κ : KT} {cs : Nat × Nat} {J : Nat → Nat → Int64} {W : Nat} : ∀ (n : Nat) (x2 : Int32) (x3 : Int32) (x4 : Int32) (I : (Nat → Nat → Int32)) (r : Int32), fx (fun _ _ _ _ => none) (bd_55_1 ) n x2 x3 x4 I = some r → tt (d + 3) me_55 bk_55_1 [some (.ref 79), none, some (.int x2), some (.int x3), some (.int x4)] [] (cw κ cs I J W) (.inl (some (.int r))) (cw κ cs I J W)
  | 0 => fun _ _ _ _ _ h => nomatch h
  | n + 1 => fun x2 x3 x4 I r h => tb_55_1  (fx _ (bd_55_1 ) n) (tn_55_1  n) x2 x3 x4 I r h
theorem tl_55_1 {d : Nat} {κ : KT} {cs : Nat × Nat} {J : Nat → Nat → Int64} {W : Nat} (x2 : Int32) (x3 : Int32) (x4 : Int32) (I : (Nat → Nat → Int32)) (r : Int32) (h : lb_55_1  x2 x3 x4 I = some r) : tt (d + 3) me_55 bk_55_1 [some (.ref 79), none, some (.int x2), some (.int x3), some (.int x4)] [] (cw κ cs I J W) (.inl (some (.int r))) (cw κ cs I J W) := tn_55_1  FU x2 x3 x4 I r h
theorem m_55 {d : Nat} {κ : KT} {cs : Nat × Nat} {J : Nat → Nat → Int64} {W : Nat} {x1 : Int32} {x2 : Int32} {I : (Nat → Nat → Int32)} {r : Int32} (h : f_55 x1 x2 I = some r) : tm (d + 3) 55 [.ref 79, .int x1, .int x2] (cw κ cs I J W) (.inl (some (.int r))) (cw κ cs I J W) :=
  tm_of me_55 rfl (Nat.le_of_ble_eq_true rfl) (
  tt_J (L1 := bk_55_1) 3 [some (.ref 79), some (.int x1), some (.int x2), some (.int x1), some (.int (0 : Int32))] [] (cw κ cs I J W) (fun _ => rfl) (tt_F [some (.ref 79), none, some (.int x2), some (.int x1), some (.int (0 : Int32))] (And.intro rfl (And.intro rfl (And.intro rfl (And.intro rfl trivial)))) (tl_55_1  x2 x1 (0 : Int32) I _ h)))
/- 56 -/
def f_56 (x1 : Int32) (I : (Nat → Nat → Int32)) : Option Int32 :=
  ((f_122 x1 (0 : Int32) ((I 79 4) - (1 : Int32)) ).bind fun q1 => (if (q1 = 0 ∨ q1 = 1) then some q1 else none))
theorem m_56 {d : Nat} {κ : KT} {cs : Nat × Nat} {J : Nat → Nat → Int64} {W : Nat} {x1 : Int32} {I : (Nat → Nat → Int32)} {r : Int32} (h : f_56 x1 I = some r) : tm (d + 1) 56 [.ref 79, .int x1] (cw κ cs I J W) (.inl (some (.int r))) (cw κ cs I J W) :=
  tm_of me_56 rfl (Nat.le_of_ble_eq_true rfl) (
  tt_C (L1 := (bk_56_0.drop 7)) 7 [some (.ref 79), some (.int x1)] [] (cw κ cs I J W) h (fun _ => rfl) (fun _ e => m_122 (d := d) e) fun q1 h =>
  tt_B 1 (fun r => (.inl (some (.int r)))) (fun r => (cw κ cs I J W)) h (fun q => Or.inr (Or.inl ⟨rfl, q⟩)) (fun _ => rfl))
/- 57 -/
def f_57 (x1 : Int32) (I : (Nat → Nat → Int32)) : Option Int32 :=
  ((f_122 x1 (0 : Int32) ((I 79 5) - (1 : Int32)) ).bind fun q1 => (if (q1 = 0 ∨ q1 = 1) then some q1 else none))
theorem m_57 {d : Nat} {κ : KT} {cs : Nat × Nat} {J : Nat → Nat → Int64} {W : Nat} {x1 : Int32} {I : (Nat → Nat → Int32)} {r : Int32} (h : f_57 x1 I = some r) : tm (d + 1) 57 [.ref 79, .int x1] (cw κ cs I J W) (.inl (some (.int r))) (cw κ cs I J W) :=
  tm_of me_57 rfl (Nat.le_of_ble_eq_true rfl) (
  tt_C (L1 := (bk_57_0.drop 7)) 7 [some (.ref 79), some (.int x1)] [] (cw κ cs I J W) h (fun _ => rfl) (fun _ e => m_122 (d := d) e) fun q1 h =>
  tt_B 1 (fun r => (.inl (some (.int r)))) (fun r => (cw κ cs I J W)) h (fun q => Or.inr (Or.inl ⟨rfl, q⟩)) (fun _ => rfl))
/- 58 -/
def lb_58_2 (s0 : Int32) (I : (Nat → Nat → Int32)) : Option Int32 :=
  (if (s0 = 0 ∨ s0 = 1) then some s0 else none)
def lb_58_1 (I : (Nat → Nat → Int32)) : Option Int32 :=
  (lb_58_2  (0 : Int32) I)
def f_58 (x1 : Int32) (x2 : Int32) (x3 : Int32) (x4 : Int32) (I : (Nat → Nat → Int32)) : Option Int32 :=
  ((f_122 x1 (0 : Int32) (2 : Int32) ).bind fun q1 => (if q1 = 0 then (lb_58_1   I) else ((f_122 x2 (0 : Int32) (1 : Int32) ).bind fun q2 => (if q2 = 0 then (lb_58_1   I) else ((f_57 x3 I).bind fun q3 => (if q3 = 0 then (lb_58_1   I) else ((f_57 x4 I).bind fun q4 => (if q4 = 0 then (lb_58_1   I) else (lb_58_2  (1 : Int32) I)))))))))
theorem tl_58_2 {d : Nat} {κ : KT} {cs : Nat × Nat} {J : Nat → Nat → Int64} {W : Nat} (s0 : Int32) (I : (Nat → Nat → Int32)) (r : Int32) (h : lb_58_2  s0 I = some r) : tt (d + 2) me_58 bk_58_2 [none, none, none, none, none] [.int s0] (cw κ cs I J W) (.inl (some (.int r))) (cw κ cs I J W) :=
  tt_B 1 (fun r => (.inl (some (.int r)))) (fun r => (cw κ cs I J W)) h (fun q => Or.inr (Or.inl ⟨rfl, q⟩)) (fun _ => rfl)
theorem tl_58_1 {d : Nat} {κ : KT} {cs : Nat × Nat} {J : Nat → Nat → Int64} {W : Nat} (I : (Nat → Nat → Int32)) (r : Int32) (h : lb_58_1   I = some r) : tt (d + 2) me_58 bk_58_1 [none, none, none, none, none] [] (cw κ cs I J W) (.inl (some (.int r))) (cw κ cs I J W) :=
  tt_J (L1 := bk_58_2) 0 [none, none, none, none, none] [.int (0 : Int32)] (cw κ cs I J W) (fun _ => rfl) (tt_F [none, none, none, none, none] trivial (tl_58_2  (0 : Int32) I _ h))
theorem m_58 {d : Nat} {κ : KT} {cs : Nat × Nat} {J : Nat → Nat → Int64} {W : Nat} {x1 : Int32} {x2 : Int32} {x3 : Int32} {x4 : Int32} {I : (Nat → Nat → Int32)} {r : Int32} (h : f_58 x1 x2 x3 x4 I = some r) : tm (d + 2) 58 [.ref 79, .int x1, .int x2, .int x3, .int x4] (cw κ cs I J W) (.inl (some (.int r))) (cw κ cs I J W) :=
  tm_of me_58 rfl (Nat.le_of_ble_eq_true rfl) (
  tt_C (L1 := (bk_58_0.drop 4)) 4 [some (.ref 79), some (.int x1), some (.int x2), some (.int x3), some (.int x4)] [] (cw κ cs I J W) h (fun _ => rfl) (fun _ e => m_122 (d := d + 1) e) fun q1 h =>
  tt_I (L1 := bk_58_1) (L2 := (bk_58_0.drop 5)) 1 [some (.ref 79), some (.int x1), some (.int x2), some (.int x3), some (.int x4)] [] (cw κ cs I J W) h (fun _ => rfl) (fun h =>
  tt_F [none, none, none, none, none] trivial (tl_58_1   I _ h)) (fun h =>
  tt_C (L1 := (bk_58_0.drop 9)) 4 [some (.ref 79), some (.int x1), some (.int x2), some (.int x3), some (.int x4)] [] (cw κ cs I J W) h (fun _ => rfl) (fun _ e => m_122 (d := d + 1) e) fun q2 h =>
  tt_I (L1 := bk_58_1) (L2 := (bk_58_0.drop 10)) 1 [some (.ref 79), some (.int x1), some (.int x2), some (.int x3), some (.int x4)] [] (cw κ cs I J W) h (fun _ => rfl) (fun h =>
  tt_F [none, none, none, none, none] trivial (tl_58_1   I _ h)) (fun h =>
  tt_C (L1 := (bk_58_0.drop 13)) 3 [some (.ref 79), some (.int x1), some (.int x2), some (.int x3), some (.int x4)] [] (cw κ cs I J W) h (fun _ => rfl) (fun _ e => m_57 (d := d) e) fun q3 h =>
  tt_I (L1 := bk_58_1) (L2 := (bk_58_0.drop 14)) 1 [some (.ref 79), some (.int x1), some (.int x2), some (.int x3), some (.int x4)] [] (cw κ cs I J W) h (fun _ => rfl) (fun h =>
  tt_F [none, none, none, none, none] trivial (tl_58_1   I _ h)) (fun h =>
  tt_C (L1 := (bk_58_0.drop 17)) 3 [some (.ref 79), some (.int x1), some (.int x2), some (.int x3), some (.int x4)] [] (cw κ cs I J W) h (fun _ => rfl) (fun _ e => m_57 (d := d) e) fun q4 h =>
  tt_I (L1 := bk_58_1) (L2 := (bk_58_0.drop 18)) 1 [some (.ref 79), some (.int x1), some (.int x2), some (.int x3), some (.int x4)] [] (cw κ cs I J W) h (fun _ => rfl) (fun h =>
  tt_F [none, none, none, none, none] trivial (tl_58_1   I _ h)) (fun h =>
  tt_J (L1 := bk_58_2) 1 [some (.ref 79), some (.int x1), some (.int x2), some (.int x3), some (.int x4)] [.int (1 : Int32)] (cw κ cs I J W) (fun _ => rfl) (tt_F [none, none, none, none, none] trivial (tl_58_2  (1 : Int32) I _ h)))))))
/- 60 -/
def bd_60_1 (c1 : Int32 → (Nat → Nat → Int32) → Option (Nat → Nat → Int32)) (x1 : Int32) (I : (Nat → Nat → Int32)) : Option (Nat → Nat → Int32) :=
  (if x1 < (nI 60) then (if ex_in x1 60 then let I4 := up I 88 (x1).toNatClampNeg x1
  (c1 (x1 + (1 : Int32)) I4) else none) else (let I1 := cpyf I 88 89 60
  (let I2 := filf I1 90 60 (0 : Int32)
  (let I3 := up I2 87 4 (0 : Int32)
  (some I3)))))
def lb_60_1 : Int32 → (Nat → Nat → Int32) → Option (Nat → Nat → Int32) := fx (fun _ _ => none) (bd_60_1 ) FU
def f_60 (I : (Nat → Nat → Int32)) : Option (Nat → Nat → Int32) :=
  (lb_60_1  (0 : Int32) I)
theorem tb_60_1 {d : Nat} {κ : KT} {cs : Nat × Nat} {J : Nat → Nat → Int64} {W : Nat} (c1 : Int32 → (Nat → Nat → Int32) → Option (Nat → Nat → Int32)) (k1 : ∀ (x1 : Int32) (I : (Nat → Nat → Int32)) (r : (Nat → Nat → Int32)), c1 x1 I = some r → tt (d + 2) me_60 bk_60_1 [some (.ref 87), some (.int x1)] [] (cw κ cs I J W) (.inl none) (cw κ cs r J W)) (x1 : Int32) (I : (Nat → Nat → Int32)) (r : (Nat → Nat → Int32)) (h : bd_60_1  c1 x1 I = some r) : tt (d + 2) me_60 bk_60_1 [some (.ref 87), some (.int x1)] [] (cw κ cs I J W) (.inl none) (cw κ cs r J W) :=
  tt_I (L1 := (bk_60_1.drop 5)) (L2 := bk_60_2) 5 [some (.ref 87), some (.int x1)] [] (cw κ cs I J W) h (fun _ => rfl) (fun h =>
  let I4 := up I 88 (x1).toNatClampNeg x1
  tt_J (L1 := (bk_60_1.drop 9)) 3 [some (.ref 87), some (.int x1)] [.int x1, .int x1, .ref 88] (cw κ cs I J W) (fun _ => rfl) (
  tt_Wi rfl (Nat.le_of_ble_eq_true rfl) h fun h =>
  tt_J (L1 := bk_60_1) 1 [some (.ref 87), some (.int (x1 + (1 : Int32)))] [] (cw κ cs I4 J W) (fun _ => rfl) (tt_F [some (.ref 87), some (.int (x1 + (1 : Int32)))] (And.intro rfl (And.intro rfl trivial)) (k1 (x1 + (1 : Int32)) I4 _ h)))) (fun h =>
  let I1 := cpyf I 88 89 60
  tt_K (L1 := (bk_60_2.drop 5)) 5 [some (.ref 87), some (.int x1)] [] (cw κ cs I J W) (fun _ => rfl) (m_copy 88 60 89 60 (Nat.le_of_ble_eq_true rfl) (Nat.le_of_ble_eq_true rfl) rfl rfl (Nat.le_of_ble_eq_true rfl))
  (let I2 := filf I1 90 60 (0 : Int32)
  tt_K (L1 := (bk_60_2.drop 9)) 4 [some (.ref 87), some (.int x1)] [] (cw κ cs I1 J W) (fun _ => rfl) (m_fill 90 60 (0 : Int32) (Nat.le_of_ble_eq_true rfl) (fun _ => rfl) (Nat.le_of_ble_eq_true rfl))
  (let I3 := up I2 87 4 (0 : Int32)
  tt_R 4 (fun r => (.inl none)) (fun r => (cw κ cs r J W)) h (fun _ => rfl))))
theorem tn_60_1 {d : Nat} {κ : KT} {cs : Nat × Nat} {J : Nat → Nat → Int64} {W : Nat} : ∀ (n : Nat) (x1 : Int32) (I : (Nat → Nat → Int32)) (r : (Nat → Nat → Int32)), fx (fun _ _ => none) (bd_60_1 ) n x1 I = some r → tt (d + 2) me_60 bk_60_1 [some (.ref 87), some (.int x1)] [] (cw κ cs I J W) (.inl none) (cw κ cs r J W)
  | 0 => fun _ _ _ h => nomatch h
  | n + 1 => fun x1 I r h => tb_60_1  (fx _ (bd_60_1 ) n) (tn_60_1  n) x1 I r h
theorem tl_60_1 {d : Nat} {κ : KT} {cs : Nat × Nat} {J : Nat → Nat → Int64} {W : Nat} (x1 : Int32) (I : (Nat → Nat → Int32)) (r : (Nat → Nat → Int32)) (h : lb_60_1  x1 I = some r) : tt (d + 2) me_60 bk_60_1 [some (.ref 87), some (.int x1)] [] (cw κ cs I J W) (.inl none) (cw κ cs r J W) := tn_60_1  FU x1 I r h
theorem m_60 {d : Nat} {κ : KT} {cs : Nat × Nat} {J : Nat → Nat → Int64} {W : Nat} {I : (Nat → Nat → Int32)} {r : (Nat → Nat → Int32)} (h : f_60  I = some r) : tm (d + 2) 60 [.ref 87] (cw κ cs I J W) (.inl none) (cw κ cs r J W) :=
  tm_of me_60 rfl (Nat.le_of_ble_eq_true rfl) (
  tt_J (L1 := bk_60_1) 1 [some (.ref 87), some (.int (0 : Int32))] [] (cw κ cs I J W) (fun _ => rfl) (tt_F [some (.ref 87), some (.int (0 : Int32))] (And.intro rfl (And.intro rfl trivial)) (tl_60_1  (0 : Int32) I _ h)))
/- 62 -/
def f_62 (x1 : Int32) (I : (Nat → Nat → Int32)) : Option (Nat → Nat → Int32) :=
  (let I1 := putf I 91 20 (I 87 4) x1
  (let I2 := up I1 87 4 ((I1 87 4) + (1 : Int32))
  (some I2)))
theorem m_62 {d : Nat} {κ : KT} {cs : Nat × Nat} {J : Nat → Nat → Int64} {W : Nat} {x1 : Int32} {I : (Nat → Nat → Int32)} {r : (Nat → Nat → Int32)} (h : f_62 x1 I = some r) : tm (d + 1) 62 [.ref 87, .int x1] (cw κ cs I J W) (.inl none) (cw κ cs r J W) :=
  tm_of me_62 rfl (Nat.le_of_ble_eq_true rfl) (
  let I1 := putf I 91 20 (I 87 4) x1
  tt_K (L1 := (bk_62_0.drop 6)) 6 [some (.ref 87), some (.int x1)] [] (cw κ cs I J W) (fun _ => rfl) (m_put 91 20 (I 87 4) x1 (Nat.le_of_ble_eq_true rfl) rfl (Nat.le_of_ble_eq_true rfl))
  (let I2 := up I1 87 4 ((I1 87 4) + (1 : Int32))
  tt_R 7 (fun r => (.inl none)) (fun r => (cw κ cs r J W)) h (fun _ => rfl)))
/- 70 -/
def lb_70_2 (c1 : Int32 → Int32 → (Nat → Nat → Int32) → Option (Nat → Nat → Int32)) (x1 : Int32) (x2 : Int32) (I : (Nat → Nat → Int32)) : Option (Nat → Nat → Int32) :=
  (c1 x1 (x2 + ((-8) : Int32)) I)
def bd_70_1 (c1 : Int32 → Int32 → (Nat → Nat → Int32) → Option (Nat → Nat → Int32)) (x1 : Int32) (x2 : Int32) (I : (Nat → Nat → Int32)) : Option (Nat → Nat → Int32) :=
  (if x2 < 0 then (some I) else (if (I 60 1) < (nI 500) then (if ex_in (I 60 1) 500 then let I1 := up I 61 ((I 60 1)).toNatClampNeg (vp_nar .byte ((x1 >>> (x2 &&& 31))).toInt8.toInt32)
  (let I2 := up I1 60 1 ((I1 60 1) + (1 : Int32))
  (lb_70_2 c1 x1 x2 I2)) else none) else (lb_70_2 c1 x1 x2 I)))
def lb_70_1 : Int32 → Int32 → (Nat → Nat → Int32) → Option (Nat → Nat → Int32) := fx (fun _ _ _ => none) (bd_70_1 ) FU
def f_70 (x1 : Int32) (I : (Nat → Nat → Int32)) : Option (Nat → Nat → Int32) :=
  (lb_70_1  x1 (24 : Int32) I)
theorem tl_70_2 {d : Nat} {κ : KT} {cs : Nat × Nat} {J : Nat → Nat → Int64} {W : Nat} (c1 : Int32 → Int32 → (Nat → Nat → Int32) → Option (Nat → Nat → Int32)) (k1 : ∀ (x1 : Int32) (x2 : Int32) (I : (Nat → Nat → Int32)) (r : (Nat → Nat → Int32)), c1 x1 x2 I = some r → tt d me_70 bk_70_1 [some (.ref 60), some (.int x1), some (.int x2)] [] (cw κ cs I J W) (.inl none) (cw κ cs r J W)) (x1 : Int32) (x2 : Int32) (I : (Nat → Nat → Int32)) (r : (Nat → Nat → Int32)) (h : lb_70_2 c1 x1 x2 I = some r) : tt d me_70 bk_70_2 [some (.ref 60), some (.int x1), some (.int x2)] [] (cw κ cs I J W) (.inl none) (cw κ cs r J W) :=
  tt_J (L1 := bk_70_1) 1 [some (.ref 60), some (.int x1), some (.int (x2 + ((-8) : Int32)))] [] (cw κ cs I J W) (fun _ => rfl) (tt_F [some (.ref 60), some (.int x1), some (.int (x2 + ((-8) : Int32)))] (And.intro rfl (And.intro rfl (And.intro rfl trivial))) (k1 x1 (x2 + ((-8) : Int32)) I _ h))
theorem tb_70_1 {d : Nat} {κ : KT} {cs : Nat × Nat} {J : Nat → Nat → Int64} {W : Nat} (c1 : Int32 → Int32 → (Nat → Nat → Int32) → Option (Nat → Nat → Int32)) (k1 : ∀ (x1 : Int32) (x2 : Int32) (I : (Nat → Nat → Int32)) (r : (Nat → Nat → Int32)), c1 x1 x2 I = some r → tt d me_70 bk_70_1 [some (.ref 60), some (.int x1), some (.int x2)] [] (cw κ cs I J W) (.inl none) (cw κ cs r J W)) (x1 : Int32) (x2 : Int32) (I : (Nat → Nat → Int32)) (r : (Nat → Nat → Int32)) (h : bd_70_1  c1 x1 x2 I = some r) : tt d me_70 bk_70_1 [some (.ref 60), some (.int x1), some (.int x2)] [] (cw κ cs I J W) (.inl none) (cw κ cs r J W) :=
  tt_I (L1 := bk_70_3) (L2 := (bk_70_1.drop 2)) 2 [some (.ref 60), some (.int x1), some (.int x2)] [] (cw κ cs I J W) h (fun _ => rfl) (fun h =>
  tt_R 1 (fun r => (.inl none)) (fun r => (cw κ cs r J W)) h (fun _ => rfl)) (fun h =>
  tt_I (L1 := (bk_70_1.drop 8)) (L2 := bk_70_2) 6 [some (.ref 60), some (.int x1), some (.int x2)] [] (cw κ cs I J W) h (fun _ => rfl) (fun h =>
  let I1 := up I 61 ((I 60 1)).toNatClampNeg (vp_nar .byte ((x1 >>> (x2 &&& 31))).toInt8.toInt32)
  tt_J (L1 := (bk_70_1.drop 16)) 7 [some (.ref 60), some (.int x1), some (.int x2)] [.int ((x1 >>> (x2 &&& 31))).toInt8.toInt32, .int (I 60 1), .ref 61] (cw κ cs I J W) (fun _ => rfl) (
  tt_Wb rfl (Nat.le_of_ble_eq_true rfl) h fun h =>
  let I2 := up I1 60 1 ((I1 60 1) + (1 : Int32))
  tt_J (L1 := bk_70_2) 5 [some (.ref 60), some (.int x1), some (.int x2)] [] (cw κ cs I2 J W) (fun _ => rfl) (tt_F [some (.ref 60), some (.int x1), some (.int x2)] (And.intro rfl (And.intro rfl (And.intro rfl trivial))) (tl_70_2 c1 k1 x1 x2 I2 _ h)))) (fun h =>
  tt_F [some (.ref 60), some (.int x1), some (.int x2)] (And.intro rfl (And.intro rfl (And.intro rfl trivial))) (tl_70_2 c1 k1 x1 x2 I _ h)))
theorem tn_70_1 {d : Nat} {κ : KT} {cs : Nat × Nat} {J : Nat → Nat → Int64} {W : Nat} : ∀ (n : Nat) (x1 : Int32) (x2 : Int32) (I : (Nat → Nat → Int32)) (r : (Nat → Nat → Int32)), fx (fun _ _ _ => none) (bd_70_1 ) n x1 x2 I = some r → tt d me_70 bk_70_1 [some (.ref 60), some (.int x1), some (.int x2)] [] (cw κ cs I J W) (.inl none) (cw κ cs r J W)
  | 0 => fun _ _ _ _ h => nomatch h
  | n + 1 => fun x1 x2 I r h => tb_70_1  (fx _ (bd_70_1 ) n) (tn_70_1  n) x1 x2 I r h
theorem tl_70_1 {d : Nat} {κ : KT} {cs : Nat × Nat} {J : Nat → Nat → Int64} {W : Nat} (x1 : Int32) (x2 : Int32) (I : (Nat → Nat → Int32)) (r : (Nat → Nat → Int32)) (h : lb_70_1  x1 x2 I = some r) : tt d me_70 bk_70_1 [some (.ref 60), some (.int x1), some (.int x2)] [] (cw κ cs I J W) (.inl none) (cw κ cs r J W) := tn_70_1  FU x1 x2 I r h
theorem m_70 {d : Nat} {κ : KT} {cs : Nat × Nat} {J : Nat → Nat → Int64} {W : Nat} {x1 : Int32} {I : (Nat → Nat → Int32)} {r : (Nat → Nat → Int32)} (h : f_70 x1 I = some r) : tm d 70 [.ref 60, .int x1] (cw κ cs I J W) (.inl none) (cw κ cs r J W) :=
  tm_of me_70 rfl (Nat.le_of_ble_eq_true rfl) (
  tt_J (L1 := bk_70_1) 1 [some (.ref 60), some (.int x1), some (.int (24 : Int32))] [] (cw κ cs I J W) (fun _ => rfl) (tt_F [some (.ref 60), some (.int x1), some (.int (24 : Int32))] (And.intro rfl (And.intro rfl (And.intro rfl trivial))) (tl_70_1  x1 (24 : Int32) I _ h)))
/- 123 -/
def bd_123_1 (c1 : Int32 → Int32 → Int32 → Int32 → Option Int32) (x0 : Int32) (x1 : Int32) (x2 : Int32) (x3 : Int32) : Option Int32 :=
  (if x3 < x1 then (c1 x0 x1 (x2 * x0) (x3 + (1 : Int32)) ) else (some x2))
def lb_123_1 : Int32 → Int32 → Int32 → Int32 → Option Int32 := fx (fun _ _ _ _ => none) (bd_123_1 ) FU
def f_123 (x0 : Int32) (x1 : Int32) : Option Int32 :=
  (lb_123_1  x0 x1 (1 : Int32) (0 : Int32) )
theorem tb_123_1 {d : Nat} {κ : KT} {cs : Nat × Nat} {I : Nat → Nat → Int32} {J : Nat → Nat → Int64} {W : Nat} (c1 : Int32 → Int32 → Int32 → Int32 → Option Int32) (k1 : ∀ (x0 : Int32) (x1 : Int32) (x2 : Int32) (x3 : Int32) (r : Int32), c1 x0 x1 x2 x3  = some r → tt d me_123 bk_123_1 [some (.int x0), some (.int x1), some (.int x2), some (.int x3)] [] (cw κ cs I J W) (.inl (some (.int r))) (cw κ cs I J W)) (x0 : Int32) (x1 : Int32) (x2 : Int32) (x3 : Int32) (r : Int32) (h : bd_123_1  c1 x0 x1 x2 x3  = some r) : tt d me_123 bk_123_1 [some (.int x0), some (.int x1), some (.int x2), some (.int x3)] [] (cw κ cs I J W) (.inl (some (.int r))) (cw κ cs I J W) :=
  tt_I (L1 := (bk_123_1.drop 3)) (L2 := bk_123_2) 3 [some (.int x0), some (.int x1), some (.int x2), some (.int x3)] [] (cw κ cs I J W) h (fun _ => rfl) (fun h =>
  tt_J (L1 := bk_123_1) 5 [some (.int x0), some (.int x1), some (.int (x2 * x0)), some (.int (x3 + (1 : Int32)))] [] (cw κ cs I J W) (fun _ => rfl) (tt_F [some (.int x0), some (.int x1), some (.int (x2 * x0)), some (.int (x3 + (1 : Int32)))] (And.intro rfl (And.intro rfl (And.intro rfl (And.intro rfl trivial)))) (k1 x0 x1 (x2 * x0) (x3 + (1 : Int32))  _ h))) (fun h =>
  tt_R 2 (fun r => (.inl (some (.int r)))) (fun r => (cw κ cs I J W)) h (fun _ => rfl))
theorem tn_123_1 {d : Nat} {κ : KT} {cs : Nat × Nat} {I : Nat → Nat → Int32} {J : Nat → Nat → Int64} {W : Nat} : ∀ (n : Nat) (x0 : Int32) (x1 : Int32) (x2 : Int32) (x3 : Int32) (r : Int32), fx (fun _ _ _ _ => none) (bd_123_1 ) n x0 x1 x2 x3  = some r → tt d me_123 bk_123_1 [some (.int x0), some (.int x1), some (.int x2), some (.int x3)] [] (cw κ cs I J W) (.inl (some (.int r))) (cw κ cs I J W)
  | 0 => fun _ _ _ _ _ h => nomatch h
  | n + 1 => fun x0 x1 x2 x3  r h => tb_123_1  (fx _ (bd_123_1 ) n) (tn_123_1  n) x0 x1 x2 x3  r h
theorem tl_123_1 {d : Nat} {κ : KT} {cs : Nat × Nat} {I : Nat → Nat → Int32} {J : Nat → Nat → Int64} {W : Nat} (x0 : Int32) (x1 : Int32) (x2 : Int32) (x3 : Int32) (r : Int32) (h : lb_123_1  x0 x1 x2 x3  = some r) : tt d me_123 bk_123_1 [some (.int x0), some (.int x1), some (.int x2), some (.int x3)] [] (cw κ cs I J W) (.inl (some (.int r))) (cw κ cs I J W) := tn_123_1  FU x0 x1 x2 x3  r h
theorem m_123 {d : Nat} {κ : KT} {cs : Nat × Nat} {I : Nat → Nat → Int32} {J : Nat → Nat → Int64} {W : Nat} {x0 : Int32} {x1 : Int32} {r : Int32} (h : f_123 x0 x1  = some r) : tm d 123 [.int x0, .int x1] (cw κ cs I J W) (.inl (some (.int r))) (cw κ cs I J W) :=
  tm_of me_123 rfl (Nat.le_of_ble_eq_true rfl) (
  tt_J (L1 := bk_123_1) 3 [some (.int x0), some (.int x1), some (.int (1 : Int32)), some (.int (0 : Int32))] [] (cw κ cs I J W) (fun _ => rfl) (tt_F [some (.int x0), some (.int x1), some (.int (1 : Int32)), some (.int (0 : Int32))] (And.intro rfl (And.intro rfl (And.intro rfl (And.intro rfl trivial)))) (tl_123_1  x0 x1 (1 : Int32) (0 : Int32)  _ h)))
