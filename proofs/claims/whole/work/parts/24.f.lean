/-! functions, by wip/whole/sy.py -/
/- 78 -/
def lb_78_3 (s0 : Int32) : Option Int32 :=
  (if (s0 = 0 ∨ s0 = 1) then some s0 else none)
def lb_78_1 : Option Int32 :=
  (lb_78_3  (1 : Int32) )
def f_78 (x0 : Int32) : Option Int32 :=
  (if x0 = (32 : Int32) then (lb_78_1   ) else (if x0 = (10 : Int32) then (lb_78_1   ) else (lb_78_3  (0 : Int32) )))
theorem tl_78_3 {d : Nat} {κ : Nat × Option Nat} {cs : Nat × Nat} {I : Nat → Nat → Int32} {J : Nat → Nat → Int64} {W : Nat} (s0 : Int32) (r : Int32) (h : lb_78_3  s0  = some r) : tt d me_78 bk_78_3 [none] [.int s0] (cw κ cs I J W) (.inl (some (.int r))) (cw κ cs I J W) :=
  tt_B 1 (fun r => (.inl (some (.int r)))) (fun r => (cw κ cs I J W)) h (fun q => Or.inr (Or.inl ⟨rfl, q⟩)) (fun _ => rfl)
theorem tl_78_1 {d : Nat} {κ : Nat × Option Nat} {cs : Nat × Nat} {I : Nat → Nat → Int32} {J : Nat → Nat → Int64} {W : Nat} (r : Int32) (h : lb_78_1    = some r) : tt d me_78 bk_78_1 [none] [] (cw κ cs I J W) (.inl (some (.int r))) (cw κ cs I J W) :=
  tt_J (L1 := bk_78_3) 1 [none] [.int (1 : Int32)] (cw κ cs I J W) (fun _ => rfl) (tt_F [none] trivial (tl_78_3  (1 : Int32)  _ h))
theorem m_78 {d : Nat} {κ : Nat × Option Nat} {cs : Nat × Nat} {I : Nat → Nat → Int32} {J : Nat → Nat → Int64} {W : Nat} {x0 : Int32} {r : Int32} (h : f_78 x0  = some r) : tm d 78 [.int x0] (cw κ cs I J W) (.inl (some (.int r))) (cw κ cs I J W) :=
  tm_of me_78 rfl (Nat.le_of_ble_eq_true rfl) (
  tt_I (L1 := bk_78_1) (L2 := (bk_78_0.drop 3)) 3 [some (.int x0)] [] (cw κ cs I J W) h (fun _ => rfl) (fun h =>
  tt_F [none] trivial (tl_78_1    _ h)) (fun h =>
  tt_I (L1 := bk_78_1) (L2 := bk_78_2) 3 [some (.int x0)] [] (cw κ cs I J W) h (fun _ => rfl) (fun h =>
  tt_F [none] trivial (tl_78_1    _ h)) (fun h =>
  tt_J (L1 := bk_78_3) 0 [some (.int x0)] [.int (0 : Int32)] (cw κ cs I J W) (fun _ => rfl) (tt_F [none] trivial (tl_78_3  (0 : Int32)  _ h)))))
/- 123 -/
def bd_123_1 (c1 : Int32 → Int32 → Int32 → Int32 → Option Int32) (x0 : Int32) (x1 : Int32) (x2 : Int32) (x3 : Int32) : Option Int32 :=
  (if x3 < x1 then (c1 x0 x1 (x2 * x0) (x3 + (1 : Int32)) ) else (some x2))
def lb_123_1 : Int32 → Int32 → Int32 → Int32 → Option Int32 := fx (fun _ _ _ _ => none) (bd_123_1 ) FU
def f_123 (x0 : Int32) (x1 : Int32) : Option Int32 :=
  (lb_123_1  x0 x1 (1 : Int32) (0 : Int32) )
theorem tb_123_1 {d : Nat} {κ : Nat × Option Nat} {cs : Nat × Nat} {I : Nat → Nat → Int32} {J : Nat → Nat → Int64} {W : Nat} (c1 : Int32 → Int32 → Int32 → Int32 → Option Int32) (k1 : ∀ (x0 : Int32) (x1 : Int32) (x2 : Int32) (x3 : Int32) (r : Int32), c1 x0 x1 x2 x3  = some r → tt d me_123 bk_123_1 [some (.int x0), some (.int x1), some (.int x2), some (.int x3)] [] (cw κ cs I J W) (.inl (some (.int r))) (cw κ cs I J W)) (x0 : Int32) (x1 : Int32) (x2 : Int32) (x3 : Int32) (r : Int32) (h : bd_123_1  c1 x0 x1 x2 x3  = some r) : tt d me_123 bk_123_1 [some (.int x0), some (.int x1), some (.int x2), some (.int x3)] [] (cw κ cs I J W) (.inl (some (.int r))) (cw κ cs I J W) :=
  tt_I (L1 := (bk_123_1.drop 3)) (L2 := bk_123_2) 3 [some (.int x0), some (.int x1), some (.int x2), some (.int x3)] [] (cw κ cs I J W) h (fun _ => rfl) (fun h =>
  tt_J (L1 := bk_123_1) 5 [some (.int x0), some (.int x1), some (.int (x2 * x0)), some (.int (x3 + (1 : Int32)))] [] (cw κ cs I J W) (fun _ => rfl) (tt_F [some (.int x0), some (.int x1), some (.int (x2 * x0)), some (.int (x3 + (1 : Int32)))] (And.intro rfl (And.intro rfl (And.intro rfl (And.intro rfl trivial)))) (k1 x0 x1 (x2 * x0) (x3 + (1 : Int32))  _ h))) (fun h =>
  tt_R 2 (fun r => (.inl (some (.int r)))) (fun r => (cw κ cs I J W)) h (fun _ => rfl))
theorem tn_123_1 {d : Nat} {κ : Nat × Option Nat} {cs : Nat × Nat} {I : Nat → Nat → Int32} {J : Nat → Nat → Int64} {W : Nat} : ∀ (n : Nat) (x0 : Int32) (x1 : Int32) (x2 : Int32) (x3 : Int32) (r : Int32), fx (fun _ _ _ _ => none) (bd_123_1 ) n x0 x1 x2 x3  = some r → tt d me_123 bk_123_1 [some (.int x0), some (.int x1), some (.int x2), some (.int x3)] [] (cw κ cs I J W) (.inl (some (.int r))) (cw κ cs I J W)
  | 0 => fun _ _ _ _ _ h => nomatch h
  | n + 1 => fun x0 x1 x2 x3  r h => tb_123_1  (fx _ (bd_123_1 ) n) (tn_123_1  n) x0 x1 x2 x3  r h
theorem tl_123_1 {d : Nat} {κ : Nat × Option Nat} {cs : Nat × Nat} {I : Nat → Nat → Int32} {J : Nat → Nat → Int64} {W : Nat} (x0 : Int32) (x1 : Int32) (x2 : Int32) (x3 : Int32) (r : Int32) (h : lb_123_1  x0 x1 x2 x3  = some r) : tt d me_123 bk_123_1 [some (.int x0), some (.int x1), some (.int x2), some (.int x3)] [] (cw κ cs I J W) (.inl (some (.int r))) (cw κ cs I J W) := tn_123_1  FU x0 x1 x2 x3  r h
theorem m_123 {d : Nat} {κ : Nat × Option Nat} {cs : Nat × Nat} {I : Nat → Nat → Int32} {J : Nat → Nat → Int64} {W : Nat} {x0 : Int32} {x1 : Int32} {r : Int32} (h : f_123 x0 x1  = some r) : tm d 123 [.int x0, .int x1] (cw κ cs I J W) (.inl (some (.int r))) (cw κ cs I J W) :=
  tm_of me_123 rfl (Nat.le_of_ble_eq_true rfl) (
  tt_J (L1 := bk_123_1) 3 [some (.int x0), some (.int x1), some (.int (1 : Int32)), some (.int (0 : Int32))] [] (cw κ cs I J W) (fun _ => rfl) (tt_F [some (.int x0), some (.int x1), some (.int (1 : Int32)), some (.int (0 : Int32))] (And.intro rfl (And.intro rfl (And.intro rfl (And.intro rfl trivial)))) (tl_123_1  x0 x1 (1 : Int32) (0 : Int32)  _ h)))
/- 86 -/
def bd_86_3 (c3 : Int64 → Int64 → Int32 → (Nat → Nat → Int32) → Option (Int64 × (Nat → Nat → Int32))) (x3 : Int64) (x5 : Int64) (x7 : Int32) (I : (Nat → Nat → Int32)) : Option (Int64 × (Nat → Nat → Int32)) :=
  (if x7 < (I 79 4) then ((f_10 x7 I).bind fun q4 => (c3 x3 (x5 ||| ((((x3).toUInt64 >>> ((q4).toInt64.toUInt64 &&& Int64.toUInt64 63)).toInt64 &&& (1 : Int64)) <<< ((x7).toInt64 &&& 63))) (x7 + (1 : Int32)) I)) else (some (x5, I)))
def lb_86_3 : Int64 → Int64 → Int32 → (Nat → Nat → Int32) → Option (Int64 × (Nat → Nat → Int32)) := fx (fun _ _ _ _ => none) (bd_86_3 ) FU
def bd_86_1 (c1 : Int32 → Int64 → Int32 → (Nat → Nat → Int32) → Option (Int64 × (Nat → Nat → Int32))) (x2 : Int32) (x3 : Int64) (x5 : Int32) (I : (Nat → Nat → Int32)) : Option (Int64 × (Nat → Nat → Int32)) :=
  (if x5 < (I 79 5) then ((f_7 x5 x2 I).bind fun q5 => (c1 x2 x3 (x5 + (1 : Int32)) q5)) else (lb_86_3  x3 (0 : Int64) (0 : Int32) I))
def lb_86_1 : Int32 → Int64 → Int32 → (Nat → Nat → Int32) → Option (Int64 × (Nat → Nat → Int32)) := fx (fun _ _ _ _ => none) (bd_86_1 ) FU
def f_86 (x1 : Int32) (x2 : Int32) (x3 : Int64) (I : (Nat → Nat → Int32)) : Option (Int64 × (Nat → Nat → Int32)) :=
  ((f_51 x1 I).bind fun q1 => ((f_52 x1 I).bind fun q2 => ((f_3 q1 q2 I).bind fun q3 => (lb_86_1  x2 x3 (0 : Int32) q3))))
theorem tb_86_3 {d : Nat} {κ : Nat × Option Nat} {cs : Nat × Nat} {J : Nat → Nat → Int64} {W : Nat} (c3 : Int64 → Int64 → Int32 → (Nat → Nat → Int32) → Option (Int64 × (Nat → Nat → Int32))) (k3 : ∀ (x3 : Int64) (x5 : Int64) (x7 : Int32) (I : (Nat → Nat → Int32)) (r : (Int64 × (Nat → Nat → Int32))), c3 x3 x5 x7 I = some r → tt (d + 3) me_86 bk_86_3 [some (.ref 84), none, none, some (.long x3), none, some (.long x5), none, some (.int x7)] [] (cw κ cs I J W) (.inl (some (.long r.1))) (cw κ cs r.2 J W)) (x3 : Int64) (x5 : Int64) (x7 : Int32) (I : (Nat → Nat → Int32)) (r : (Int64 × (Nat → Nat → Int32))) (h : bd_86_3  c3 x3 x5 x7 I = some r) : tt (d + 3) me_86 bk_86_3 [some (.ref 84), none, none, some (.long x3), none, some (.long x5), none, some (.int x7)] [] (cw κ cs I J W) (.inl (some (.long r.1))) (cw κ cs r.2 J W) :=
  tt_I (L1 := (bk_86_3.drop 5)) (L2 := bk_86_4) 5 [some (.ref 84), none, none, some (.long x3), none, some (.long x5), none, some (.int x7)] [] (cw κ cs I J W) h (fun _ => rfl) (fun h =>
  tt_C (L1 := (bk_86_3.drop 11)) 6 [some (.ref 84), none, none, some (.long x3), none, some (.long x5), none, some (.int x7)] [.long x3, .long x5] (cw κ cs I J W) h (fun _ => rfl) (fun _ e => m_10 (d := d) e) fun q4 h =>
  tt_J (L1 := bk_86_3) 8 [some (.ref 84), none, none, some (.long x3), none, some (.long (x5 ||| ((((x3).toUInt64 >>> ((q4).toInt64.toUInt64 &&& Int64.toUInt64 63)).toInt64 &&& (1 : Int64)) <<< ((x7).toInt64 &&& 63)))), none, some (.int (x7 + (1 : Int32)))] [] (cw κ cs I J W) (fun _ => rfl) (tt_F [some (.ref 84), none, none, some (.long x3), none, some (.long (x5 ||| ((((x3).toUInt64 >>> ((q4).toInt64.toUInt64 &&& Int64.toUInt64 63)).toInt64 &&& (1 : Int64)) <<< ((x7).toInt64 &&& 63)))), none, some (.int (x7 + (1 : Int32)))] (And.intro rfl (And.intro rfl (And.intro rfl (And.intro rfl trivial)))) (k3 x3 (x5 ||| ((((x3).toUInt64 >>> ((q4).toInt64.toUInt64 &&& Int64.toUInt64 63)).toInt64 &&& (1 : Int64)) <<< ((x7).toInt64 &&& 63))) (x7 + (1 : Int32)) I _ h))) (fun h =>
  tt_R 2 (fun r => (.inl (some (.long r.1)))) (fun r => (cw κ cs r.2 J W)) h (fun _ => rfl))
theorem tn_86_3 {d : Nat} {κ : Nat × Option Nat} {cs : Nat × Nat} {J : Nat → Nat → Int64} {W : Nat} : ∀ (n : Nat) (x3 : Int64) (x5 : Int64) (x7 : Int32) (I : (Nat → Nat → Int32)) (r : (Int64 × (Nat → Nat → Int32))), fx (fun _ _ _ _ => none) (bd_86_3 ) n x3 x5 x7 I = some r → tt (d + 3) me_86 bk_86_3 [some (.ref 84), none, none, some (.long x3), none, some (.long x5), none, some (.int x7)] [] (cw κ cs I J W) (.inl (some (.long r.1))) (cw κ cs r.2 J W)
  | 0 => fun _ _ _ _ _ h => nomatch h
  | n + 1 => fun x3 x5 x7 I r h => tb_86_3  (fx _ (bd_86_3 ) n) (tn_86_3  n) x3 x5 x7 I r h
theorem tl_86_3 {d : Nat} {κ : Nat × Option Nat} {cs : Nat × Nat} {J : Nat → Nat → Int64} {W : Nat} (x3 : Int64) (x5 : Int64) (x7 : Int32) (I : (Nat → Nat → Int32)) (r : (Int64 × (Nat → Nat → Int32))) (h : lb_86_3  x3 x5 x7 I = some r) : tt (d + 3) me_86 bk_86_3 [some (.ref 84), none, none, some (.long x3), none, some (.long x5), none, some (.int x7)] [] (cw κ cs I J W) (.inl (some (.long r.1))) (cw κ cs r.2 J W) := tn_86_3  FU x3 x5 x7 I r h
theorem tb_86_1 {d : Nat} {κ : Nat × Option Nat} {cs : Nat × Nat} {J : Nat → Nat → Int64} {W : Nat} (c1 : Int32 → Int64 → Int32 → (Nat → Nat → Int32) → Option (Int64 × (Nat → Nat → Int32))) (k1 : ∀ (x2 : Int32) (x3 : Int64) (x5 : Int32) (I : (Nat → Nat → Int32)) (r : (Int64 × (Nat → Nat → Int32))), c1 x2 x3 x5 I = some r → tt (d + 3) me_86 bk_86_1 [some (.ref 84), none, some (.int x2), some (.long x3), none, some (.int x5), none, none] [] (cw κ cs I J W) (.inl (some (.long r.1))) (cw κ cs r.2 J W)) (x2 : Int32) (x3 : Int64) (x5 : Int32) (I : (Nat → Nat → Int32)) (r : (Int64 × (Nat → Nat → Int32))) (h : bd_86_1  c1 x2 x3 x5 I = some r) : tt (d + 3) me_86 bk_86_1 [some (.ref 84), none, some (.int x2), some (.long x3), none, some (.int x5), none, none] [] (cw κ cs I J W) (.inl (some (.long r.1))) (cw κ cs r.2 J W) :=
  tt_I (L1 := (bk_86_1.drop 5)) (L2 := bk_86_2) 5 [some (.ref 84), none, some (.int x2), some (.long x3), none, some (.int x5), none, none] [] (cw κ cs I J W) h (fun _ => rfl) (fun h =>
  tt_C (L1 := (bk_86_1.drop 10)) 5 [some (.ref 84), none, some (.int x2), some (.long x3), none, some (.int x5), none, none] [] (cw κ cs I J W) h (fun _ => rfl) (fun _ e => m_7 (d := d) e) fun q5 h =>
  tt_J (L1 := bk_86_1) 1 [some (.ref 84), none, some (.int x2), some (.long x3), none, some (.int (x5 + (1 : Int32))), none, none] [] (cw κ cs q5 J W) (fun _ => rfl) (tt_F [some (.ref 84), none, some (.int x2), some (.long x3), none, some (.int (x5 + (1 : Int32))), none, none] (And.intro rfl (And.intro rfl (And.intro rfl (And.intro rfl trivial)))) (k1 x2 x3 (x5 + (1 : Int32)) q5 _ h))) (fun h =>
  tt_J (L1 := bk_86_3) 3 [some (.ref 84), none, some (.int x2), some (.long x3), none, some (.long (0 : Int64)), none, some (.int (0 : Int32))] [] (cw κ cs I J W) (fun _ => rfl) (tt_F [some (.ref 84), none, none, some (.long x3), none, some (.long (0 : Int64)), none, some (.int (0 : Int32))] (And.intro rfl (And.intro rfl (And.intro rfl (And.intro rfl trivial)))) (tl_86_3  x3 (0 : Int64) (0 : Int32) I _ h)))
theorem tn_86_1 {d : Nat} {κ : Nat × Option Nat} {cs : Nat × Nat} {J : Nat → Nat → Int64} {W : Nat} : ∀ (n : Nat) (x2 : Int32) (x3 : Int64) (x5 : Int32) (I : (Nat → Nat → Int32)) (r : (Int64 × (Nat → Nat → Int32))), fx (fun _ _ _ _ => none) (bd_86_1 ) n x2 x3 x5 I = some r → tt (d + 3) me_86 bk_86_1 [some (.ref 84), none, some (.int x2), some (.long x3), none, some (.int x5), none, none] [] (cw κ cs I J W) (.inl (some (.long r.1))) (cw κ cs r.2 J W)
  | 0 => fun _ _ _ _ _ h => nomatch h
  | n + 1 => fun x2 x3 x5 I r h => tb_86_1  (fx _ (bd_86_1 ) n) (tn_86_1  n) x2 x3 x5 I r h
theorem tl_86_1 {d : Nat} {κ : Nat × Option Nat} {cs : Nat × Nat} {J : Nat → Nat → Int64} {W : Nat} (x2 : Int32) (x3 : Int64) (x5 : Int32) (I : (Nat → Nat → Int32)) (r : (Int64 × (Nat → Nat → Int32))) (h : lb_86_1  x2 x3 x5 I = some r) : tt (d + 3) me_86 bk_86_1 [some (.ref 84), none, some (.int x2), some (.long x3), none, some (.int x5), none, none] [] (cw κ cs I J W) (.inl (some (.long r.1))) (cw κ cs r.2 J W) := tn_86_1  FU x2 x3 x5 I r h
theorem m_86 {d : Nat} {κ : Nat × Option Nat} {cs : Nat × Nat} {J : Nat → Nat → Int64} {W : Nat} {x1 : Int32} {x2 : Int32} {x3 : Int64} {I : (Nat → Nat → Int32)} {r : (Int64 × (Nat → Nat → Int32))} (h : f_86 x1 x2 x3 I = some r) : tm (d + 3) 86 [.ref 84, .int x1, .int x2, .long x3] (cw κ cs I J W) (.inl (some (.long r.1))) (cw κ cs r.2 J W) :=
  tm_of me_86 rfl (Nat.le_of_ble_eq_true rfl) (
  tt_C (L1 := (bk_86_0.drop 6)) 6 [some (.ref 84), some (.int x1), some (.int x2), some (.long x3), none, none, none, none] [.ref 74] (cw κ cs I J W) h (fun _ => rfl) (fun _ e => m_51 (d := d) e) fun q1 h =>
  tt_C (L1 := (bk_86_0.drop 10)) 4 [some (.ref 84), some (.int x1), some (.int x2), some (.long x3), none, none, none, none] [.int q1, .ref 74] (cw κ cs I J W) h (fun _ => rfl) (fun _ e => m_52 (d := d) e) fun q2 h =>
  tt_C (L1 := (bk_86_0.drop 11)) 1 [some (.ref 84), some (.int x1), some (.int x2), some (.long x3), none, none, none, none] [] (cw κ cs I J W) h (fun _ => rfl) (fun _ e => m_3 (d := d + 2) e) fun q3 h =>
  tt_J (L1 := bk_86_1) 1 [some (.ref 84), some (.int x1), some (.int x2), some (.long x3), none, some (.int (0 : Int32)), none, none] [] (cw κ cs q3 J W) (fun _ => rfl) (tt_F [some (.ref 84), none, some (.int x2), some (.long x3), none, some (.int (0 : Int32)), none, none] (And.intro rfl (And.intro rfl (And.intro rfl (And.intro rfl trivial)))) (tl_86_1  x2 x3 (0 : Int32) q3 _ h)))
/- 210 -/
def f_210 (x0 : Int64) : Option Int32 :=
  (some ((((((((((x0 - (((x0).toUInt64 >>> (((1 : Int32)).toInt64.toUInt64 &&& Int64.toUInt64 63)).toInt64 &&& (lN 6148914691236517205))) &&& (lN 3689348814741910323)) + ((((x0 - (((x0).toUInt64 >>> (((1 : Int32)).toInt64.toUInt64 &&& Int64.toUInt64 63)).toInt64 &&& (lN 6148914691236517205)))).toUInt64 >>> (((2 : Int32)).toInt64.toUInt64 &&& Int64.toUInt64 63)).toInt64 &&& (lN 3689348814741910323))) + (((((x0 - (((x0).toUInt64 >>> (((1 : Int32)).toInt64.toUInt64 &&& Int64.toUInt64 63)).toInt64 &&& (lN 6148914691236517205))) &&& (lN 3689348814741910323)) + ((((x0 - (((x0).toUInt64 >>> (((1 : Int32)).toInt64.toUInt64 &&& Int64.toUInt64 63)).toInt64 &&& (lN 6148914691236517205)))).toUInt64 >>> (((2 : Int32)).toInt64.toUInt64 &&& Int64.toUInt64 63)).toInt64 &&& (lN 3689348814741910323)))).toUInt64 >>> (((4 : Int32)).toInt64.toUInt64 &&& Int64.toUInt64 63)).toInt64) &&& (lN 1085102592571150095)) + (((((((x0 - (((x0).toUInt64 >>> (((1 : Int32)).toInt64.toUInt64 &&& Int64.toUInt64 63)).toInt64 &&& (lN 6148914691236517205))) &&& (lN 3689348814741910323)) + ((((x0 - (((x0).toUInt64 >>> (((1 : Int32)).toInt64.toUInt64 &&& Int64.toUInt64 63)).toInt64 &&& (lN 6148914691236517205)))).toUInt64 >>> (((2 : Int32)).toInt64.toUInt64 &&& Int64.toUInt64 63)).toInt64 &&& (lN 3689348814741910323))) + (((((x0 - (((x0).toUInt64 >>> (((1 : Int32)).toInt64.toUInt64 &&& Int64.toUInt64 63)).toInt64 &&& (lN 6148914691236517205))) &&& (lN 3689348814741910323)) + ((((x0 - (((x0).toUInt64 >>> (((1 : Int32)).toInt64.toUInt64 &&& Int64.toUInt64 63)).toInt64 &&& (lN 6148914691236517205)))).toUInt64 >>> (((2 : Int32)).toInt64.toUInt64 &&& Int64.toUInt64 63)).toInt64 &&& (lN 3689348814741910323)))).toUInt64 >>> (((4 : Int32)).toInt64.toUInt64 &&& Int64.toUInt64 63)).toInt64) &&& (lN 1085102592571150095))).toUInt64 >>> (((8 : Int32)).toInt64.toUInt64 &&& Int64.toUInt64 63)).toInt64) + ((((((((x0 - (((x0).toUInt64 >>> (((1 : Int32)).toInt64.toUInt64 &&& Int64.toUInt64 63)).toInt64 &&& (lN 6148914691236517205))) &&& (lN 3689348814741910323)) + ((((x0 - (((x0).toUInt64 >>> (((1 : Int32)).toInt64.toUInt64 &&& Int64.toUInt64 63)).toInt64 &&& (lN 6148914691236517205)))).toUInt64 >>> (((2 : Int32)).toInt64.toUInt64 &&& Int64.toUInt64 63)).toInt64 &&& (lN 3689348814741910323))) + (((((x0 - (((x0).toUInt64 >>> (((1 : Int32)).toInt64.toUInt64 &&& Int64.toUInt64 63)).toInt64 &&& (lN 6148914691236517205))) &&& (lN 3689348814741910323)) + ((((x0 - (((x0).toUInt64 >>> (((1 : Int32)).toInt64.toUInt64 &&& Int64.toUInt64 63)).toInt64 &&& (lN 6148914691236517205)))).toUInt64 >>> (((2 : Int32)).toInt64.toUInt64 &&& Int64.toUInt64 63)).toInt64 &&& (lN 3689348814741910323)))).toUInt64 >>> (((4 : Int32)).toInt64.toUInt64 &&& Int64.toUInt64 63)).toInt64) &&& (lN 1085102592571150095)) + (((((((x0 - (((x0).toUInt64 >>> (((1 : Int32)).toInt64.toUInt64 &&& Int64.toUInt64 63)).toInt64 &&& (lN 6148914691236517205))) &&& (lN 3689348814741910323)) + ((((x0 - (((x0).toUInt64 >>> (((1 : Int32)).toInt64.toUInt64 &&& Int64.toUInt64 63)).toInt64 &&& (lN 6148914691236517205)))).toUInt64 >>> (((2 : Int32)).toInt64.toUInt64 &&& Int64.toUInt64 63)).toInt64 &&& (lN 3689348814741910323))) + (((((x0 - (((x0).toUInt64 >>> (((1 : Int32)).toInt64.toUInt64 &&& Int64.toUInt64 63)).toInt64 &&& (lN 6148914691236517205))) &&& (lN 3689348814741910323)) + ((((x0 - (((x0).toUInt64 >>> (((1 : Int32)).toInt64.toUInt64 &&& Int64.toUInt64 63)).toInt64 &&& (lN 6148914691236517205)))).toUInt64 >>> (((2 : Int32)).toInt64.toUInt64 &&& Int64.toUInt64 63)).toInt64 &&& (lN 3689348814741910323)))).toUInt64 >>> (((4 : Int32)).toInt64.toUInt64 &&& Int64.toUInt64 63)).toInt64) &&& (lN 1085102592571150095))).toUInt64 >>> (((8 : Int32)).toInt64.toUInt64 &&& Int64.toUInt64 63)).toInt64)).toUInt64 >>> (((16 : Int32)).toInt64.toUInt64 &&& Int64.toUInt64 63)).toInt64) + (((((((((x0 - (((x0).toUInt64 >>> (((1 : Int32)).toInt64.toUInt64 &&& Int64.toUInt64 63)).toInt64 &&& (lN 6148914691236517205))) &&& (lN 3689348814741910323)) + ((((x0 - (((x0).toUInt64 >>> (((1 : Int32)).toInt64.toUInt64 &&& Int64.toUInt64 63)).toInt64 &&& (lN 6148914691236517205)))).toUInt64 >>> (((2 : Int32)).toInt64.toUInt64 &&& Int64.toUInt64 63)).toInt64 &&& (lN 3689348814741910323))) + (((((x0 - (((x0).toUInt64 >>> (((1 : Int32)).toInt64.toUInt64 &&& Int64.toUInt64 63)).toInt64 &&& (lN 6148914691236517205))) &&& (lN 3689348814741910323)) + ((((x0 - (((x0).toUInt64 >>> (((1 : Int32)).toInt64.toUInt64 &&& Int64.toUInt64 63)).toInt64 &&& (lN 6148914691236517205)))).toUInt64 >>> (((2 : Int32)).toInt64.toUInt64 &&& Int64.toUInt64 63)).toInt64 &&& (lN 3689348814741910323)))).toUInt64 >>> (((4 : Int32)).toInt64.toUInt64 &&& Int64.toUInt64 63)).toInt64) &&& (lN 1085102592571150095)) + (((((((x0 - (((x0).toUInt64 >>> (((1 : Int32)).toInt64.toUInt64 &&& Int64.toUInt64 63)).toInt64 &&& (lN 6148914691236517205))) &&& (lN 3689348814741910323)) + ((((x0 - (((x0).toUInt64 >>> (((1 : Int32)).toInt64.toUInt64 &&& Int64.toUInt64 63)).toInt64 &&& (lN 6148914691236517205)))).toUInt64 >>> (((2 : Int32)).toInt64.toUInt64 &&& Int64.toUInt64 63)).toInt64 &&& (lN 3689348814741910323))) + (((((x0 - (((x0).toUInt64 >>> (((1 : Int32)).toInt64.toUInt64 &&& Int64.toUInt64 63)).toInt64 &&& (lN 6148914691236517205))) &&& (lN 3689348814741910323)) + ((((x0 - (((x0).toUInt64 >>> (((1 : Int32)).toInt64.toUInt64 &&& Int64.toUInt64 63)).toInt64 &&& (lN 6148914691236517205)))).toUInt64 >>> (((2 : Int32)).toInt64.toUInt64 &&& Int64.toUInt64 63)).toInt64 &&& (lN 3689348814741910323)))).toUInt64 >>> (((4 : Int32)).toInt64.toUInt64 &&& Int64.toUInt64 63)).toInt64) &&& (lN 1085102592571150095))).toUInt64 >>> (((8 : Int32)).toInt64.toUInt64 &&& Int64.toUInt64 63)).toInt64) + ((((((((x0 - (((x0).toUInt64 >>> (((1 : Int32)).toInt64.toUInt64 &&& Int64.toUInt64 63)).toInt64 &&& (lN 6148914691236517205))) &&& (lN 3689348814741910323)) + ((((x0 - (((x0).toUInt64 >>> (((1 : Int32)).toInt64.toUInt64 &&& Int64.toUInt64 63)).toInt64 &&& (lN 6148914691236517205)))).toUInt64 >>> (((2 : Int32)).toInt64.toUInt64 &&& Int64.toUInt64 63)).toInt64 &&& (lN 3689348814741910323))) + (((((x0 - (((x0).toUInt64 >>> (((1 : Int32)).toInt64.toUInt64 &&& Int64.toUInt64 63)).toInt64 &&& (lN 6148914691236517205))) &&& (lN 3689348814741910323)) + ((((x0 - (((x0).toUInt64 >>> (((1 : Int32)).toInt64.toUInt64 &&& Int64.toUInt64 63)).toInt64 &&& (lN 6148914691236517205)))).toUInt64 >>> (((2 : Int32)).toInt64.toUInt64 &&& Int64.toUInt64 63)).toInt64 &&& (lN 3689348814741910323)))).toUInt64 >>> (((4 : Int32)).toInt64.toUInt64 &&& Int64.toUInt64 63)).toInt64) &&& (lN 1085102592571150095)) + (((((((x0 - (((x0).toUInt64 >>> (((1 : Int32)).toInt64.toUInt64 &&& Int64.toUInt64 63)).toInt64 &&& (lN 6148914691236517205))) &&& (lN 3689348814741910323)) + ((((x0 - (((x0).toUInt64 >>> (((1 : Int32)).toInt64.toUInt64 &&& Int64.toUInt64 63)).toInt64 &&& (lN 6148914691236517205)))).toUInt64 >>> (((2 : Int32)).toInt64.toUInt64 &&& Int64.toUInt64 63)).toInt64 &&& (lN 3689348814741910323))) + (((((x0 - (((x0).toUInt64 >>> (((1 : Int32)).toInt64.toUInt64 &&& Int64.toUInt64 63)).toInt64 &&& (lN 6148914691236517205))) &&& (lN 3689348814741910323)) + ((((x0 - (((x0).toUInt64 >>> (((1 : Int32)).toInt64.toUInt64 &&& Int64.toUInt64 63)).toInt64 &&& (lN 6148914691236517205)))).toUInt64 >>> (((2 : Int32)).toInt64.toUInt64 &&& Int64.toUInt64 63)).toInt64 &&& (lN 3689348814741910323)))).toUInt64 >>> (((4 : Int32)).toInt64.toUInt64 &&& Int64.toUInt64 63)).toInt64) &&& (lN 1085102592571150095))).toUInt64 >>> (((8 : Int32)).toInt64.toUInt64 &&& Int64.toUInt64 63)).toInt64)).toUInt64 >>> (((16 : Int32)).toInt64.toUInt64 &&& Int64.toUInt64 63)).toInt64)).toUInt64 >>> (((32 : Int32)).toInt64.toUInt64 &&& Int64.toUInt64 63)).toInt64)).toInt32 &&& (127 : Int32)))
theorem m_210 {d : Nat} {κ : Nat × Option Nat} {cs : Nat × Nat} {I : Nat → Nat → Int32} {J : Nat → Nat → Int64} {W : Nat} {x0 : Int64} {r : Int32} (h : f_210 x0  = some r) : tm d 210 [.long x0] (cw κ cs I J W) (.inl (some (.int r))) (cw κ cs I J W) :=
  tm_of me_210 rfl (Nat.le_of_ble_eq_true rfl) (
  tt_R 49 (fun r => (.inl (some (.int r)))) (fun r => (cw κ cs I J W)) h (fun _ => rfl))
/- 83 -/
def f_83 (I : (Nat → Nat → Int32)) : Option (Nat → Nat → Int32) :=
  (let I1 := up I 84 5 (I 84 4)
  (let I2 := up I1 84 6 (I1 84 2)
  (some I2)))
theorem m_83 {d : Nat} {κ : Nat × Option Nat} {cs : Nat × Nat} {J : Nat → Nat → Int64} {W : Nat} {I : (Nat → Nat → Int32)} {r : (Nat → Nat → Int32)} (h : f_83  I = some r) : tm d 83 [.ref 84] (cw κ cs I J W) (.inl none) (cw κ cs r J W) :=
  tm_of me_83 rfl (Nat.le_of_ble_eq_true rfl) (
  let I1 := up I 84 5 (I 84 4)
  let I2 := up I1 84 6 (I1 84 2)
  tt_R 9 (fun r => (.inl none)) (fun r => (cw κ cs r J W)) h (fun _ => rfl))
/- 121 -/
def bd_121_1 (c1 : Int32 → Int32 → Int32 → Option Int32) (x1 : Int32) (x2 : Int32) (x3 : Int32) : Option Int32 :=
  (if x3 < x1 then (c1 x1 (x2 / (6 : Int32)) (x3 + (1 : Int32)) ) else (some (x2 - x2 / (6 : Int32) * (6 : Int32))))
def lb_121_1 : Int32 → Int32 → Int32 → Option Int32 := fx (fun _ _ _ => none) (bd_121_1 ) FU
def f_121 (x0 : Int32) (x1 : Int32) : Option Int32 :=
  (lb_121_1  x1 x0 (0 : Int32) )
theorem tb_121_1 {d : Nat} {κ : Nat × Option Nat} {cs : Nat × Nat} {I : Nat → Nat → Int32} {J : Nat → Nat → Int64} {W : Nat} (c1 : Int32 → Int32 → Int32 → Option Int32) (k1 : ∀ (x1 : Int32) (x2 : Int32) (x3 : Int32) (r : Int32), c1 x1 x2 x3  = some r → tt d me_121 bk_121_1 [none, some (.int x1), some (.int x2), some (.int x3)] [] (cw κ cs I J W) (.inl (some (.int r))) (cw κ cs I J W)) (x1 : Int32) (x2 : Int32) (x3 : Int32) (r : Int32) (h : bd_121_1  c1 x1 x2 x3  = some r) : tt d me_121 bk_121_1 [none, some (.int x1), some (.int x2), some (.int x3)] [] (cw κ cs I J W) (.inl (some (.int r))) (cw κ cs I J W) :=
  tt_I (L1 := (bk_121_1.drop 3)) (L2 := bk_121_2) 3 [none, some (.int x1), some (.int x2), some (.int x3)] [] (cw κ cs I J W) h (fun _ => rfl) (fun h =>
  tt_J (L1 := bk_121_1) 5 [none, some (.int x1), some (.int (x2 / (6 : Int32))), some (.int (x3 + (1 : Int32)))] [] (cw κ cs I J W) (fun _ => rfl) (tt_F [none, some (.int x1), some (.int (x2 / (6 : Int32))), some (.int (x3 + (1 : Int32)))] (And.intro rfl (And.intro rfl (And.intro rfl trivial))) (k1 x1 (x2 / (6 : Int32)) (x3 + (1 : Int32))  _ h))) (fun h =>
  tt_R 4 (fun r => (.inl (some (.int r)))) (fun r => (cw κ cs I J W)) h (fun _ => rfl))
theorem tn_121_1 {d : Nat} {κ : Nat × Option Nat} {cs : Nat × Nat} {I : Nat → Nat → Int32} {J : Nat → Nat → Int64} {W : Nat} : ∀ (n : Nat) (x1 : Int32) (x2 : Int32) (x3 : Int32) (r : Int32), fx (fun _ _ _ => none) (bd_121_1 ) n x1 x2 x3  = some r → tt d me_121 bk_121_1 [none, some (.int x1), some (.int x2), some (.int x3)] [] (cw κ cs I J W) (.inl (some (.int r))) (cw κ cs I J W)
  | 0 => fun _ _ _ _ h => nomatch h
  | n + 1 => fun x1 x2 x3  r h => tb_121_1  (fx _ (bd_121_1 ) n) (tn_121_1  n) x1 x2 x3  r h
theorem tl_121_1 {d : Nat} {κ : Nat × Option Nat} {cs : Nat × Nat} {I : Nat → Nat → Int32} {J : Nat → Nat → Int64} {W : Nat} (x1 : Int32) (x2 : Int32) (x3 : Int32) (r : Int32) (h : lb_121_1  x1 x2 x3  = some r) : tt d me_121 bk_121_1 [none, some (.int x1), some (.int x2), some (.int x3)] [] (cw κ cs I J W) (.inl (some (.int r))) (cw κ cs I J W) := tn_121_1  FU x1 x2 x3  r h
theorem m_121 {d : Nat} {κ : Nat × Option Nat} {cs : Nat × Nat} {I : Nat → Nat → Int32} {J : Nat → Nat → Int64} {W : Nat} {x0 : Int32} {x1 : Int32} {r : Int32} (h : f_121 x0 x1  = some r) : tm d 121 [.int x0, .int x1] (cw κ cs I J W) (.inl (some (.int r))) (cw κ cs I J W) :=
  tm_of me_121 rfl (Nat.le_of_ble_eq_true rfl) (
  tt_J (L1 := bk_121_1) 3 [some (.int x0), some (.int x1), some (.int x0), some (.int (0 : Int32))] [] (cw κ cs I J W) (fun _ => rfl) (tt_F [none, some (.int x1), some (.int x0), some (.int (0 : Int32))] (And.intro rfl (And.intro rfl (And.intro rfl trivial))) (tl_121_1  x1 x0 (0 : Int32)  _ h)))
/- 84 -/
def f_84 (x1 : Int32) (I : (Nat → Nat → Int32)) : Option Int32 :=
  ((f_121 (I 84 5) (((I 84 6) - (1 : Int32)) - x1) ).bind fun q1 => (some q1))
theorem m_84 {d : Nat} {κ : Nat × Option Nat} {cs : Nat × Nat} {J : Nat → Nat → Int64} {W : Nat} {x1 : Int32} {I : (Nat → Nat → Int32)} {r : Int32} (h : f_84 x1 I = some r) : tm (d + 1) 84 [.ref 84, .int x1] (cw κ cs I J W) (.inl (some (.int r))) (cw κ cs I J W) :=
  tm_of me_84 rfl (Nat.le_of_ble_eq_true rfl) (
  tt_C (L1 := (bk_84_0.drop 9)) 9 [some (.ref 84), some (.int x1)] [] (cw κ cs I J W) h (fun _ => rfl) (fun _ e => m_121 (d := d) e) fun q1 h =>
  tt_R 1 (fun r => (.inl (some (.int r)))) (fun r => (cw κ cs I J W)) h (fun _ => rfl))
/- 88 -/
def f_88 (x1 : Int32) (x2 : Int32) (x3 : Int32) (x4 : Int32) (x5 : Int32) (I : (Nat → Nat → Int32)) : Option (Int32 × (Nat → Nat → Int32)) :=
  (if (500 : Int32) < ((I 60 1) + (20 : Int32)) then (some (((-1) : Int32), I)) else ((f_70 x1 I).bind fun q1 => ((f_70 x2 q1).bind fun q2 => ((f_70 x3 q2).bind fun q3 => ((f_70 x4 q3).bind fun q4 => ((f_70 x5 q4).bind fun q5 => (some ((q5 60 1), q5))))))))
theorem m_88 {d : Nat} {κ : Nat × Option Nat} {cs : Nat × Nat} {J : Nat → Nat → Int64} {W : Nat} {x1 : Int32} {x2 : Int32} {x3 : Int32} {x4 : Int32} {x5 : Int32} {I : (Nat → Nat → Int32)} {r : (Int32 × (Nat → Nat → Int32))} (h : f_88 x1 x2 x3 x4 x5 I = some r) : tm (d + 1) 88 [.ref 58, .int x1, .int x2, .int x3, .int x4, .int x5] (cw κ cs I J W) (.inl (some (.int r.1))) (cw κ cs r.2 J W) :=
  tm_of me_88 rfl (Nat.le_of_ble_eq_true rfl) (
  tt_I (L1 := (bk_88_0.drop 7)) (L2 := bk_88_1) 7 [some (.ref 58), some (.int x1), some (.int x2), some (.int x3), some (.int x4), some (.int x5)] [] (cw κ cs I J W) h (fun _ => rfl) (fun h =>
  tt_R 2 (fun r => (.inl (some (.int r.1)))) (fun r => (cw κ cs r.2 J W)) h (fun _ => rfl)) (fun h =>
  tt_C (L1 := (bk_88_1.drop 4)) 4 [some (.ref 58), some (.int x1), some (.int x2), some (.int x3), some (.int x4), some (.int x5)] [] (cw κ cs I J W) h (fun _ => rfl) (fun _ e => m_70 (d := d) e) fun q1 h =>
  tt_C (L1 := (bk_88_1.drop 8)) 4 [some (.ref 58), some (.int x1), some (.int x2), some (.int x3), some (.int x4), some (.int x5)] [] (cw κ cs q1 J W) h (fun _ => rfl) (fun _ e => m_70 (d := d) e) fun q2 h =>
  tt_C (L1 := (bk_88_1.drop 12)) 4 [some (.ref 58), some (.int x1), some (.int x2), some (.int x3), some (.int x4), some (.int x5)] [] (cw κ cs q2 J W) h (fun _ => rfl) (fun _ e => m_70 (d := d) e) fun q3 h =>
  tt_C (L1 := (bk_88_1.drop 16)) 4 [some (.ref 58), some (.int x1), some (.int x2), some (.int x3), some (.int x4), some (.int x5)] [] (cw κ cs q3 J W) h (fun _ => rfl) (fun _ e => m_70 (d := d) e) fun q4 h =>
  tt_C (L1 := (bk_88_1.drop 20)) 4 [some (.ref 58), some (.int x1), some (.int x2), some (.int x3), some (.int x4), some (.int x5)] [] (cw κ cs q4 J W) h (fun _ => rfl) (fun _ e => m_70 (d := d) e) fun q5 h =>
  tt_R 4 (fun r => (.inl (some (.int r.1)))) (fun r => (cw κ cs r.2 J W)) h (fun _ => rfl)))
/- 90 -/
def f_90 (I : (Nat → Nat → Int32)) : Option Int32 :=
  (some (I 58 10))
theorem m_90 {d : Nat} {κ : Nat × Option Nat} {cs : Nat × Nat} {J : Nat → Nat → Int64} {W : Nat} {I : (Nat → Nat → Int32)} {r : Int32} (h : f_90  I = some r) : tm d 90 [.ref 58] (cw κ cs I J W) (.inl (some (.int r))) (cw κ cs I J W) :=
  tm_of me_90 rfl (Nat.le_of_ble_eq_true rfl) (
  tt_R 3 (fun r => (.inl (some (.int r)))) (fun r => (cw κ cs I J W)) h (fun _ => rfl))
/- 66 -/
def lb_66_2 (c1 : Int64 → Int32 → (Nat → Nat → Int32) → Option Int64) (x2 : Int64) (x4 : Int32) (I : (Nat → Nat → Int32)) : Option Int64 :=
  (c1 x2 (x4 + (1 : Int32)) I)
def bd_66_1 (c1 : Int64 → Int32 → (Nat → Nat → Int32) → Option Int64) (x2 : Int64) (x4 : Int32) (I : (Nat → Nat → Int32)) : Option Int64 :=
  (if x4 < (I 79 4) then (if (I 79 6) < (atf (I 90) 60 x4) then (lb_66_2 c1 x2 x4 I) else (lb_66_2 c1 (x2 ||| ((1 : Int64) <<< ((x4).toInt64 &&& 63))) x4 I)) else (some x2))
def lb_66_1 : Int64 → Int32 → (Nat → Nat → Int32) → Option Int64 := fx (fun _ _ _ => none) (bd_66_1 ) FU
def f_66 (I : (Nat → Nat → Int32)) : Option Int64 :=
  (lb_66_1  (0 : Int64) (0 : Int32) I)
theorem tl_66_2 {d : Nat} {κ : Nat × Option Nat} {cs : Nat × Nat} {J : Nat → Nat → Int64} {W : Nat} (c1 : Int64 → Int32 → (Nat → Nat → Int32) → Option Int64) (k1 : ∀ (x2 : Int64) (x4 : Int32) (I : (Nat → Nat → Int32)) (r : Int64), c1 x2 x4 I = some r → tt (d + 1) me_66 bk_66_1 [some (.ref 87), some (.ref 79), some (.long x2), none, some (.int x4)] [] (cw κ cs I J W) (.inl (some (.long r))) (cw κ cs I J W)) (x2 : Int64) (x4 : Int32) (I : (Nat → Nat → Int32)) (r : Int64) (h : lb_66_2 c1 x2 x4 I = some r) : tt (d + 1) me_66 bk_66_2 [some (.ref 87), some (.ref 79), some (.long x2), none, some (.int x4)] [] (cw κ cs I J W) (.inl (some (.long r))) (cw κ cs I J W) :=
  tt_J (L1 := bk_66_1) 1 [some (.ref 87), some (.ref 79), some (.long x2), none, some (.int (x4 + (1 : Int32)))] [] (cw κ cs I J W) (fun _ => rfl) (tt_F [some (.ref 87), some (.ref 79), some (.long x2), none, some (.int (x4 + (1 : Int32)))] (And.intro rfl (And.intro rfl (And.intro rfl (And.intro rfl trivial)))) (k1 x2 (x4 + (1 : Int32)) I _ h))
theorem tb_66_1 {d : Nat} {κ : Nat × Option Nat} {cs : Nat × Nat} {J : Nat → Nat → Int64} {W : Nat} (c1 : Int64 → Int32 → (Nat → Nat → Int32) → Option Int64) (k1 : ∀ (x2 : Int64) (x4 : Int32) (I : (Nat → Nat → Int32)) (r : Int64), c1 x2 x4 I = some r → tt (d + 1) me_66 bk_66_1 [some (.ref 87), some (.ref 79), some (.long x2), none, some (.int x4)] [] (cw κ cs I J W) (.inl (some (.long r))) (cw κ cs I J W)) (x2 : Int64) (x4 : Int32) (I : (Nat → Nat → Int32)) (r : Int64) (h : bd_66_1  c1 x2 x4 I = some r) : tt (d + 1) me_66 bk_66_1 [some (.ref 87), some (.ref 79), some (.long x2), none, some (.int x4)] [] (cw κ cs I J W) (.inl (some (.long r))) (cw κ cs I J W) :=
  tt_I (L1 := (bk_66_1.drop 4)) (L2 := bk_66_3) 4 [some (.ref 87), some (.ref 79), some (.long x2), none, some (.int x4)] [] (cw κ cs I J W) h (fun _ => rfl) (fun h =>
  tt_K (L1 := (bk_66_1.drop 8)) 4 [some (.ref 87), some (.ref 79), some (.long x2), none, some (.int x4)] [] (cw κ cs I J W) (fun _ => rfl) (m_at 90 60 x4 (Nat.le_of_ble_eq_true rfl) rfl)
  (tt_I (L1 := bk_66_2) (L2 := (bk_66_1.drop 11)) 3 [some (.ref 87), some (.ref 79), some (.long x2), none, some (.int x4)] [] (cw κ cs I J W) h (fun _ => rfl) (fun h =>
  tt_F [some (.ref 87), some (.ref 79), some (.long x2), none, some (.int x4)] (And.intro rfl (And.intro rfl (And.intro rfl (And.intro rfl trivial)))) (tl_66_2 c1 k1 x2 x4 I _ h)) (fun h =>
  tt_J (L1 := bk_66_2) 5 [some (.ref 87), some (.ref 79), some (.long (x2 ||| ((1 : Int64) <<< ((x4).toInt64 &&& 63)))), none, some (.int x4)] [] (cw κ cs I J W) (fun _ => rfl) (tt_F [some (.ref 87), some (.ref 79), some (.long (x2 ||| ((1 : Int64) <<< ((x4).toInt64 &&& 63)))), none, some (.int x4)] (And.intro rfl (And.intro rfl (And.intro rfl (And.intro rfl trivial)))) (tl_66_2 c1 k1 (x2 ||| ((1 : Int64) <<< ((x4).toInt64 &&& 63))) x4 I _ h))))) (fun h =>
  tt_R 2 (fun r => (.inl (some (.long r)))) (fun r => (cw κ cs I J W)) h (fun _ => rfl))
theorem tn_66_1 {d : Nat} {κ : Nat × Option Nat} {cs : Nat × Nat} {J : Nat → Nat → Int64} {W : Nat} : ∀ (n : Nat) (x2 : Int64) (x4 : Int32) (I : (Nat → Nat → Int32)) (r : Int64), fx (fun _ _ _ => none) (bd_66_1 ) n x2 x4 I = some r → tt (d + 1) me_66 bk_66_1 [some (.ref 87), some (.ref 79), some (.long x2), none, some (.int x4)] [] (cw κ cs I J W) (.inl (some (.long r))) (cw κ cs I J W)
  | 0 => fun _ _ _ _ h => nomatch h
  | n + 1 => fun x2 x4 I r h => tb_66_1  (fx _ (bd_66_1 ) n) (tn_66_1  n) x2 x4 I r h
theorem tl_66_1 {d : Nat} {κ : Nat × Option Nat} {cs : Nat × Nat} {J : Nat → Nat → Int64} {W : Nat} (x2 : Int64) (x4 : Int32) (I : (Nat → Nat → Int32)) (r : Int64) (h : lb_66_1  x2 x4 I = some r) : tt (d + 1) me_66 bk_66_1 [some (.ref 87), some (.ref 79), some (.long x2), none, some (.int x4)] [] (cw κ cs I J W) (.inl (some (.long r))) (cw κ cs I J W) := tn_66_1  FU x2 x4 I r h
theorem m_66 {d : Nat} {κ : Nat × Option Nat} {cs : Nat × Nat} {J : Nat → Nat → Int64} {W : Nat} {I : (Nat → Nat → Int32)} {r : Int64} (h : f_66  I = some r) : tm (d + 1) 66 [.ref 87, .ref 79] (cw κ cs I J W) (.inl (some (.long r))) (cw κ cs I J W) :=
  tm_of me_66 rfl (Nat.le_of_ble_eq_true rfl) (
  tt_J (L1 := bk_66_1) 3 [some (.ref 87), some (.ref 79), some (.long (0 : Int64)), none, some (.int (0 : Int32))] [] (cw κ cs I J W) (fun _ => rfl) (tt_F [some (.ref 87), some (.ref 79), some (.long (0 : Int64)), none, some (.int (0 : Int32))] (And.intro rfl (And.intro rfl (And.intro rfl (And.intro rfl trivial)))) (tl_66_1  (0 : Int64) (0 : Int32) I _ h)))
/- 91 -/
def f_91 (x1 : Int32) (I : (Nat → Nat → Int32)) : Option (Int32 ⊕ Nat) :=
  (if x1 = (0 : Int32) then (some (.inl (I 79 4))) else (if x1 = (1 : Int32) then (some (.inl (I 79 5))) else (if x1 = (2 : Int32) then (some (.inl (I 79 8))) else (if x1 = (3 : Int32) then (some (.inl (I 79 6))) else (if x1 = (4 : Int32) then (some (.inl (I 79 7))) else (if x1 = (5 : Int32) then (some (.inl (I 87 4))) else (if x1 = (6 : Int32) then ((f_66  I).bind fun q1 => ((f_210 q1 ).bind fun q2 => (some (.inl q2)))) else (if x1 = (7 : Int32) then (some (.inl (I 60 1))) else (if x1 = (8 : Int32) then (some (.inl (I 58 11))) else (if x1 = (9 : Int32) then (some (.inl (I 58 12))) else (some (.inr 1))))))))))))
theorem m_91 {d : Nat} {κ : Nat × Option Nat} {cs : Nat × Nat} {J : Nat → Nat → Int64} {W : Nat} {x1 : Int32} {I : (Nat → Nat → Int32)} {r : (Int32 ⊕ Nat)} (h : f_91 x1 I = some r) : tm (d + 2) 91 [.ref 58, .int x1] (cw κ cs I J W) (xi r) (cw κ (xc cs r) I J W) :=
  tm_of me_91 rfl (Nat.le_of_ble_eq_true rfl) (
  tt_J (L1 := (bk_91_0.drop 1)) 0 [some (.ref 58), some (.int x1)] [.int x1] (cw κ cs I J W) (fun _ => rfl) (
  tt_T (L1 := bk_91_1) (0 : Int32) h (fun _ => rfl) (fun h =>
  tt_R 4 (fun r => (xi r)) (fun r => (cw κ (xc cs r) I J W)) h (fun _ => rfl)) (fun e0 h =>
  tt_T (L1 := bk_91_2) (1 : Int32) h (fun _ => rfl) (fun h =>
  tt_R 4 (fun r => (xi r)) (fun r => (cw κ (xc cs r) I J W)) h (fun _ => rfl)) (fun e1 h =>
  tt_T (L1 := bk_91_3) (2 : Int32) h (fun _ => rfl) (fun h =>
  tt_R 4 (fun r => (xi r)) (fun r => (cw κ (xc cs r) I J W)) h (fun _ => rfl)) (fun e2 h =>
  tt_T (L1 := bk_91_4) (3 : Int32) h (fun _ => rfl) (fun h =>
  tt_R 4 (fun r => (xi r)) (fun r => (cw κ (xc cs r) I J W)) h (fun _ => rfl)) (fun e3 h =>
  tt_T (L1 := bk_91_5) (4 : Int32) h (fun _ => rfl) (fun h =>
  tt_R 4 (fun r => (xi r)) (fun r => (cw κ (xc cs r) I J W)) h (fun _ => rfl)) (fun e4 h =>
  tt_T (L1 := bk_91_6) (5 : Int32) h (fun _ => rfl) (fun h =>
  tt_R 4 (fun r => (xi r)) (fun r => (cw κ (xc cs r) I J W)) h (fun _ => rfl)) (fun e5 h =>
  tt_T (L1 := bk_91_7) (6 : Int32) h (fun _ => rfl) (fun h =>
  tt_C (L1 := (bk_91_7.drop 5)) 5 [some (.ref 58), some (.int x1)] [] (cw κ cs I J W) h (fun _ => rfl) (fun _ e => m_66 (d := d) e) fun q1 h =>
  tt_C (L1 := (bk_91_7.drop 6)) 1 [some (.ref 58), some (.int x1)] [] (cw κ cs I J W) h (fun _ => rfl) (fun _ e => m_210 (d := d + 1) e) fun q2 h =>
  tt_R 1 (fun r => (xi r)) (fun r => (cw κ (xc cs r) I J W)) h (fun _ => rfl)) (fun e6 h =>
  tt_T (L1 := bk_91_8) (7 : Int32) h (fun _ => rfl) (fun h =>
  tt_R 4 (fun r => (xi r)) (fun r => (cw κ (xc cs r) I J W)) h (fun _ => rfl)) (fun e7 h =>
  tt_T (L1 := bk_91_9) (8 : Int32) h (fun _ => rfl) (fun h =>
  tt_R 3 (fun r => (xi r)) (fun r => (cw κ (xc cs r) I J W)) h (fun _ => rfl)) (fun e8 h =>
  tt_T (L1 := bk_91_10) (9 : Int32) h (fun _ => rfl) (fun h =>
  tt_R 3 (fun r => (xi r)) (fun r => (cw κ (xc cs r) I J W)) h (fun _ => rfl)) (fun e9 h =>
  tt_T0 (by have e0 := nev e0 (show ((0 : Int32)).toInt = 0 from rfl); have e1 := nev e1 (show ((1 : Int32)).toInt = 1 from rfl); have e2 := nev e2 (show ((2 : Int32)).toInt = 2 from rfl); have e3 := nev e3 (show ((3 : Int32)).toInt = 3 from rfl); have e4 := nev e4 (show ((4 : Int32)).toInt = 4 from rfl); have e5 := nev e5 (show ((5 : Int32)).toInt = 5 from rfl); have e6 := nev e6 (show ((6 : Int32)).toInt = 6 from rfl); have e7 := nev e7 (show ((7 : Int32)).toInt = 7 from rfl); have e8 := nev e8 (show ((8 : Int32)).toInt = 8 from rfl); have e9 := nev e9 (show ((9 : Int32)).toInt = 9 from rfl); omega) (
  tt_R 1 (fun r => (xi r)) (fun r => (cw κ (xc cs r) I J W)) h (fun _ => rfl))))))))))))))
/- 92 -/
def lb_92_1 (I : (Nat → Nat → Int32)) : Option (Int32 ⊕ Nat) :=
  (some (.inr 1))
def f_92 (x1 : Int32) (x2 : Int32) (x3 : Int32) (I : (Nat → Nat → Int32)) : Option (Int32 ⊕ Nat) :=
  (if x1 < 0 then (lb_92_1   I) else (if x1 < (I 79 8) then ((f_57 x2 I).bind fun q1 => (if q1 = 0 then (lb_92_1   I) else (if x3 = (0 : Int32) then ((f_51 x1 I).bind fun q2 => (some (.inl q2))) else (if x3 = (1 : Int32) then ((f_52 x1 I).bind fun q3 => (some (.inl q3))) else (if x3 = (2 : Int32) then ((f_53 x1 x2 I).bind fun q4 => (some (.inl q4))) else (some (.inr 1))))))) else (lb_92_1   I)))
theorem tl_92_1 {d : Nat} {κ : Nat × Option Nat} {cs : Nat × Nat} {J : Nat → Nat → Int64} {W : Nat} (I : (Nat → Nat → Int32)) (r : (Int32 ⊕ Nat)) (h : lb_92_1   I = some r) : tt (d + 3) me_92 bk_92_1 [none, none, none, none] [] (cw κ cs I J W) (xi r) (cw κ (xc cs r) I J W) :=
  tt_R 1 (fun r => (xi r)) (fun r => (cw κ (xc cs r) I J W)) h (fun _ => rfl)
theorem m_92 {d : Nat} {κ : Nat × Option Nat} {cs : Nat × Nat} {J : Nat → Nat → Int64} {W : Nat} {x1 : Int32} {x2 : Int32} {x3 : Int32} {I : (Nat → Nat → Int32)} {r : (Int32 ⊕ Nat)} (h : f_92 x1 x2 x3 I = some r) : tm (d + 3) 92 [.ref 58, .int x1, .int x2, .int x3] (cw κ cs I J W) (xi r) (cw κ (xc cs r) I J W) :=
  tm_of me_92 rfl (Nat.le_of_ble_eq_true rfl) (
  tt_I (L1 := bk_92_1) (L2 := (bk_92_0.drop 2)) 2 [some (.ref 58), some (.int x1), some (.int x2), some (.int x3)] [] (cw κ cs I J W) h (fun _ => rfl) (fun h =>
  tt_F [none, none, none, none] trivial (tl_92_1   I _ h)) (fun h =>
  tt_I (L1 := (bk_92_0.drop 7)) (L2 := bk_92_1) 5 [some (.ref 58), some (.int x1), some (.int x2), some (.int x3)] [] (cw κ cs I J W) h (fun _ => rfl) (fun h =>
  tt_C (L1 := (bk_92_0.drop 11)) 4 [some (.ref 58), some (.int x1), some (.int x2), some (.int x3)] [] (cw κ cs I J W) h (fun _ => rfl) (fun _ e => m_57 (d := d + 1) e) fun q1 h =>
  tt_I (L1 := bk_92_1) (L2 := bk_92_2) 1 [some (.ref 58), some (.int x1), some (.int x2), some (.int x3)] [] (cw κ cs I J W) h (fun _ => rfl) (fun h =>
  tt_F [none, none, none, none] trivial (tl_92_1   I _ h)) (fun h =>
  tt_J (L1 := (bk_92_2.drop 1)) 0 [some (.ref 58), some (.int x1), some (.int x2), some (.int x3)] [.int x3] (cw κ cs I J W) (fun _ => rfl) (
  tt_T (L1 := bk_92_3) (0 : Int32) h (fun _ => rfl) (fun h =>
  tt_C (L1 := (bk_92_3.drop 4)) 4 [some (.ref 58), some (.int x1), some (.int x2), some (.int x3)] [] (cw κ cs I J W) h (fun _ => rfl) (fun _ e => m_51 (d := d) e) fun q2 h =>
  tt_R 1 (fun r => (xi r)) (fun r => (cw κ (xc cs r) I J W)) h (fun _ => rfl)) (fun e0 h =>
  tt_T (L1 := bk_92_4) (1 : Int32) h (fun _ => rfl) (fun h =>
  tt_C (L1 := (bk_92_4.drop 4)) 4 [some (.ref 58), some (.int x1), some (.int x2), some (.int x3)] [] (cw κ cs I J W) h (fun _ => rfl) (fun _ e => m_52 (d := d) e) fun q3 h =>
  tt_R 1 (fun r => (xi r)) (fun r => (cw κ (xc cs r) I J W)) h (fun _ => rfl)) (fun e1 h =>
  tt_T (L1 := bk_92_5) (2 : Int32) h (fun _ => rfl) (fun h =>
  tt_C (L1 := (bk_92_5.drop 5)) 5 [some (.ref 58), some (.int x1), some (.int x2), some (.int x3)] [] (cw κ cs I J W) h (fun _ => rfl) (fun _ e => m_53 (d := d) e) fun q4 h =>
  tt_R 1 (fun r => (xi r)) (fun r => (cw κ (xc cs r) I J W)) h (fun _ => rfl)) (fun e2 h =>
  tt_T0 (by have e0 := nev e0 (show ((0 : Int32)).toInt = 0 from rfl); have e1 := nev e1 (show ((1 : Int32)).toInt = 1 from rfl); have e2 := nev e2 (show ((2 : Int32)).toInt = 2 from rfl); omega) (
  tt_R 1 (fun r => (xi r)) (fun r => (cw κ (xc cs r) I J W)) h (fun _ => rfl)))))))) (fun h =>
  tt_F [none, none, none, none] trivial (tl_92_1   I _ h))))
/- 93 -/
def lb_93_1 (I : (Nat → Nat → Int32)) : Option ((Int32 ⊕ Nat) × (Nat → Nat → Int32)) :=
  (some ((.inr 1), I))
def f_93 (x1 : Int32) (x2 : Int32) (x3 : Int32) (I : (Nat → Nat → Int32)) : Option ((Int32 ⊕ Nat) × (Nat → Nat → Int32)) :=
  ((f_56 x1 I).bind fun q1 => (if q1 = 0 then (lb_93_1   I) else (if x2 < 0 then (lb_93_1   I) else ((f_57 x3 I).bind fun q2 => (if q2 = 0 then (lb_93_1   I) else ((f_51 x2 I).bind fun q3 => ((f_52 x2 I).bind fun q4 => ((f_3 q3 q4 I).bind fun q5 => ((f_53 x2 x3 q5).bind fun q6 => ((f_4 q6 x3 x3 q5).bind fun q7 => ((f_10 x1 q7).bind fun q8 => (some ((.inl q8), q7)))))))))))))
theorem tl_93_1 {d : Nat} {κ : Nat × Option Nat} {cs : Nat × Nat} {J : Nat → Nat → Int64} {W : Nat} (I : (Nat → Nat → Int32)) (r : ((Int32 ⊕ Nat) × (Nat → Nat → Int32))) (h : lb_93_1   I = some r) : tt (d + 4) me_93 bk_93_1 [none, none, none, none] [] (cw κ cs I J W) (xi r.1) (cw κ (xc cs r.1) r.2 J W) :=
  tt_R 1 (fun r => (xi r.1)) (fun r => (cw κ (xc cs r.1) r.2 J W)) h (fun _ => rfl)
theorem m_93 {d : Nat} {κ : Nat × Option Nat} {cs : Nat × Nat} {J : Nat → Nat → Int64} {W : Nat} {x1 : Int32} {x2 : Int32} {x3 : Int32} {I : (Nat → Nat → Int32)} {r : ((Int32 ⊕ Nat) × (Nat → Nat → Int32))} (h : f_93 x1 x2 x3 I = some r) : tm (d + 4) 93 [.ref 58, .int x1, .int x2, .int x3] (cw κ cs I J W) (xi r.1) (cw κ (xc cs r.1) r.2 J W) :=
  tm_of me_93 rfl (Nat.le_of_ble_eq_true rfl) (
  tt_C (L1 := (bk_93_0.drop 4)) 4 [some (.ref 58), some (.int x1), some (.int x2), some (.int x3)] [] (cw κ cs I J W) h (fun _ => rfl) (fun _ e => m_56 (d := d + 2) e) fun q1 h =>
  tt_I (L1 := bk_93_1) (L2 := (bk_93_0.drop 5)) 1 [some (.ref 58), some (.int x1), some (.int x2), some (.int x3)] [] (cw κ cs I J W) h (fun _ => rfl) (fun h =>
  tt_F [none, none, none, none] trivial (tl_93_1   I _ h)) (fun h =>
  tt_I (L1 := bk_93_1) (L2 := (bk_93_0.drop 7)) 2 [some (.ref 58), some (.int x1), some (.int x2), some (.int x3)] [] (cw κ cs I J W) h (fun _ => rfl) (fun h =>
  tt_F [none, none, none, none] trivial (tl_93_1   I _ h)) (fun h =>
  tt_C (L1 := (bk_93_0.drop 11)) 4 [some (.ref 58), some (.int x1), some (.int x2), some (.int x3)] [] (cw κ cs I J W) h (fun _ => rfl) (fun _ e => m_57 (d := d + 2) e) fun q2 h =>
  tt_I (L1 := bk_93_1) (L2 := bk_93_2) 1 [some (.ref 58), some (.int x1), some (.int x2), some (.int x3)] [] (cw κ cs I J W) h (fun _ => rfl) (fun h =>
  tt_F [none, none, none, none] trivial (tl_93_1   I _ h)) (fun h =>
  tt_C (L1 := (bk_93_2.drop 6)) 6 [some (.ref 58), some (.int x1), some (.int x2), some (.int x3)] [.ref 74] (cw κ cs I J W) h (fun _ => rfl) (fun _ e => m_51 (d := d + 1) e) fun q3 h =>
  tt_C (L1 := (bk_93_2.drop 10)) 4 [some (.ref 58), some (.int x1), some (.int x2), some (.int x3)] [.int q3, .ref 74] (cw κ cs I J W) h (fun _ => rfl) (fun _ e => m_52 (d := d + 1) e) fun q4 h =>
  tt_C (L1 := (bk_93_2.drop 11)) 1 [some (.ref 58), some (.int x1), some (.int x2), some (.int x3)] [] (cw κ cs I J W) h (fun _ => rfl) (fun _ e => m_3 (d := d + 3) e) fun q5 h =>
  tt_C (L1 := (bk_93_2.drop 18)) 7 [some (.ref 58), some (.int x1), some (.int x2), some (.int x3)] [.ref 74] (cw κ cs q5 J W) h (fun _ => rfl) (fun _ e => m_53 (d := d + 1) e) fun q6 h =>
  tt_C (L1 := (bk_93_2.drop 21)) 3 [some (.ref 58), some (.int x1), some (.int x2), some (.int x3)] [] (cw κ cs q5 J W) h (fun _ => rfl) (fun _ e => m_4 (d := d) e) fun q7 h =>
  tt_C (L1 := (bk_93_2.drop 25)) 4 [some (.ref 58), some (.int x1), some (.int x2), some (.int x3)] [] (cw κ cs q7 J W) h (fun _ => rfl) (fun _ e => m_10 (d := d + 1) e) fun q8 h =>
  tt_R 1 (fun r => (xi r.1)) (fun r => (cw κ (xc cs r.1) r.2 J W)) h (fun _ => rfl)))))
/- 94 -/
def f_94 (x1 : Int32) (x2 : Int32) (I : (Nat → Nat → Int32)) : Option (Int32 ⊕ Nat) :=
  ((f_56 x1 I).bind fun q1 => (if q1 = 0 then (some (.inr 1)) else ((f_122 x2 (0 : Int32) (60 : Int32) ).bind fun q2 => (if q2 = 0 then (some (.inr 0)) else ((f_55 x1 x2 I).bind fun q3 => (some (.inl q3)))))))
theorem m_94 {d : Nat} {κ : Nat × Option Nat} {cs : Nat × Nat} {J : Nat → Nat → Int64} {W : Nat} {x1 : Int32} {x2 : Int32} {I : (Nat → Nat → Int32)} {r : (Int32 ⊕ Nat)} (h : f_94 x1 x2 I = some r) : tm (d + 4) 94 [.ref 58, .int x1, .int x2] (cw κ cs I J W) (xi r) (cw κ (xc cs r) I J W) :=
  tm_of me_94 rfl (Nat.le_of_ble_eq_true rfl) (
  tt_C (L1 := (bk_94_0.drop 4)) 4 [some (.ref 58), some (.int x1), some (.int x2)] [] (cw κ cs I J W) h (fun _ => rfl) (fun _ e => m_56 (d := d + 2) e) fun q1 h =>
  tt_I (L1 := (bk_94_0.drop 5)) (L2 := bk_94_1) 1 [some (.ref 58), some (.int x1), some (.int x2)] [] (cw κ cs I J W) h (fun _ => rfl) (fun h =>
  tt_R 1 (fun r => (xi r)) (fun r => (cw κ (xc cs r) I J W)) h (fun _ => rfl)) (fun h =>
  tt_C (L1 := (bk_94_1.drop 4)) 4 [some (.ref 58), some (.int x1), some (.int x2)] [] (cw κ cs I J W) h (fun _ => rfl) (fun _ e => m_122 (d := d + 3) e) fun q2 h =>
  tt_I (L1 := (bk_94_1.drop 5)) (L2 := bk_94_2) 1 [some (.ref 58), some (.int x1), some (.int x2)] [] (cw κ cs I J W) h (fun _ => rfl) (fun h =>
  tt_R 1 (fun r => (xi r)) (fun r => (cw κ (xc cs r) I J W)) h (fun _ => rfl)) (fun h =>
  tt_C (L1 := (bk_94_2.drop 5)) 5 [some (.ref 58), some (.int x1), some (.int x2)] [] (cw κ cs I J W) h (fun _ => rfl) (fun _ e => m_55 (d := d) e) fun q3 h =>
  tt_R 1 (fun r => (xi r)) (fun r => (cw κ (xc cs r) I J W)) h (fun _ => rfl))))
/- 115 -/
def bd_115_1 (c1 : Int32 → (Nat → Nat → Int32) → Option (Nat → Nat → Int32)) (x1 : Int32) (I : (Nat → Nat → Int32)) : Option (Nat → Nat → Int32) :=
  (if x1 < (nI 60) then (if ex_in x1 60 then let I1 := up I 59 (x1).toNatClampNeg x1
  (c1 (x1 + (1 : Int32)) I1) else none) else (some I))
def lb_115_1 : Int32 → (Nat → Nat → Int32) → Option (Nat → Nat → Int32) := fx (fun _ _ => none) (bd_115_1 ) FU
def f_115 (I : (Nat → Nat → Int32)) : Option (Nat → Nat → Int32) :=
  (lb_115_1  (0 : Int32) I)
theorem tb_115_1 {d : Nat} {κ : Nat × Option Nat} {cs : Nat × Nat} {J : Nat → Nat → Int64} {W : Nat} (c1 : Int32 → (Nat → Nat → Int32) → Option (Nat → Nat → Int32)) (k1 : ∀ (x1 : Int32) (I : (Nat → Nat → Int32)) (r : (Nat → Nat → Int32)), c1 x1 I = some r → tt d me_115 bk_115_1 [some (.ref 58), some (.int x1)] [] (cw κ cs I J W) (.inl none) (cw κ cs r J W)) (x1 : Int32) (I : (Nat → Nat → Int32)) (r : (Nat → Nat → Int32)) (h : bd_115_1  c1 x1 I = some r) : tt d me_115 bk_115_1 [some (.ref 58), some (.int x1)] [] (cw κ cs I J W) (.inl none) (cw κ cs r J W) :=
  tt_I (L1 := (bk_115_1.drop 5)) (L2 := bk_115_2) 5 [some (.ref 58), some (.int x1)] [] (cw κ cs I J W) h (fun _ => rfl) (fun h =>
  let I1 := up I 59 (x1).toNatClampNeg x1
  tt_J (L1 := (bk_115_1.drop 9)) 3 [some (.ref 58), some (.int x1)] [.int x1, .int x1, .ref 59] (cw κ cs I J W) (fun _ => rfl) (
  tt_Wi rfl (Nat.le_of_ble_eq_true rfl) h fun h =>
  tt_J (L1 := bk_115_1) 1 [some (.ref 58), some (.int (x1 + (1 : Int32)))] [] (cw κ cs I1 J W) (fun _ => rfl) (tt_F [some (.ref 58), some (.int (x1 + (1 : Int32)))] (And.intro rfl (And.intro rfl trivial)) (k1 (x1 + (1 : Int32)) I1 _ h)))) (fun h =>
  tt_R 1 (fun r => (.inl none)) (fun r => (cw κ cs r J W)) h (fun _ => rfl))
theorem tn_115_1 {d : Nat} {κ : Nat × Option Nat} {cs : Nat × Nat} {J : Nat → Nat → Int64} {W : Nat} : ∀ (n : Nat) (x1 : Int32) (I : (Nat → Nat → Int32)) (r : (Nat → Nat → Int32)), fx (fun _ _ => none) (bd_115_1 ) n x1 I = some r → tt d me_115 bk_115_1 [some (.ref 58), some (.int x1)] [] (cw κ cs I J W) (.inl none) (cw κ cs r J W)
  | 0 => fun _ _ _ h => nomatch h
  | n + 1 => fun x1 I r h => tb_115_1  (fx _ (bd_115_1 ) n) (tn_115_1  n) x1 I r h
theorem tl_115_1 {d : Nat} {κ : Nat × Option Nat} {cs : Nat × Nat} {J : Nat → Nat → Int64} {W : Nat} (x1 : Int32) (I : (Nat → Nat → Int32)) (r : (Nat → Nat → Int32)) (h : lb_115_1  x1 I = some r) : tt d me_115 bk_115_1 [some (.ref 58), some (.int x1)] [] (cw κ cs I J W) (.inl none) (cw κ cs r J W) := tn_115_1  FU x1 I r h
theorem m_115 {d : Nat} {κ : Nat × Option Nat} {cs : Nat × Nat} {J : Nat → Nat → Int64} {W : Nat} {I : (Nat → Nat → Int32)} {r : (Nat → Nat → Int32)} (h : f_115  I = some r) : tm d 115 [.ref 58] (cw κ cs I J W) (.inl none) (cw κ cs r J W) :=
  tm_of me_115 rfl (Nat.le_of_ble_eq_true rfl) (
  tt_J (L1 := bk_115_1) 1 [some (.ref 58), some (.int (0 : Int32))] [] (cw κ cs I J W) (fun _ => rfl) (tt_F [some (.ref 58), some (.int (0 : Int32))] (And.intro rfl (And.intro rfl trivial)) (tl_115_1  (0 : Int32) I _ h)))
/- 117 -/
def bd_117_1 (c1 : Int32 → Int32 → (Nat → Nat → Int32) → Option Int32) (x1 : Int32) (x2 : Int32) (I : (Nat → Nat → Int32)) : Option Int32 :=
  (if x2 < (I 79 4) then (if (atf (I 59) 60 x2) = x1 then (c1 x1 (x2 + (1 : Int32)) I) else (some ((-1) : Int32))) else (some x1))
def lb_117_1 : Int32 → Int32 → (Nat → Nat → Int32) → Option Int32 := fx (fun _ _ _ => none) (bd_117_1 ) FU
def f_117 (I : (Nat → Nat → Int32)) : Option Int32 :=
  (lb_117_1  (atf (I 59) 60 (0 : Int32)) (1 : Int32) I)
theorem tb_117_1 {d : Nat} {κ : Nat × Option Nat} {cs : Nat × Nat} {J : Nat → Nat → Int64} {W : Nat} (c1 : Int32 → Int32 → (Nat → Nat → Int32) → Option Int32) (k1 : ∀ (x1 : Int32) (x2 : Int32) (I : (Nat → Nat → Int32)) (r : Int32), c1 x1 x2 I = some r → tt (d + 1) me_117 bk_117_1 [some (.ref 58), some (.int x1), some (.int x2)] [] (cw κ cs I J W) (.inl (some (.int r))) (cw κ cs I J W)) (x1 : Int32) (x2 : Int32) (I : (Nat → Nat → Int32)) (r : Int32) (h : bd_117_1  c1 x1 x2 I = some r) : tt (d + 1) me_117 bk_117_1 [some (.ref 58), some (.int x1), some (.int x2)] [] (cw κ cs I J W) (.inl (some (.int r))) (cw κ cs I J W) :=
  tt_I (L1 := (bk_117_1.drop 5)) (L2 := bk_117_3) 5 [some (.ref 58), some (.int x1), some (.int x2)] [] (cw κ cs I J W) h (fun _ => rfl) (fun h =>
  tt_K (L1 := (bk_117_1.drop 9)) 4 [some (.ref 58), some (.int x1), some (.int x2)] [] (cw κ cs I J W) (fun _ => rfl) (m_at 59 60 x2 (Nat.le_of_ble_eq_true rfl) rfl)
  (tt_I (L1 := bk_117_2) (L2 := (bk_117_1.drop 11)) 2 [some (.ref 58), some (.int x1), some (.int x2)] [] (cw κ cs I J W) h (fun _ => rfl) (fun h =>
  tt_J (L1 := bk_117_1) 1 [some (.ref 58), some (.int x1), some (.int (x2 + (1 : Int32)))] [] (cw κ cs I J W) (fun _ => rfl) (tt_F [some (.ref 58), some (.int x1), some (.int (x2 + (1 : Int32)))] (And.intro rfl (And.intro rfl (And.intro rfl trivial))) (k1 x1 (x2 + (1 : Int32)) I _ h))) (fun h =>
  tt_R 2 (fun r => (.inl (some (.int r)))) (fun r => (cw κ cs I J W)) h (fun _ => rfl)))) (fun h =>
  tt_R 2 (fun r => (.inl (some (.int r)))) (fun r => (cw κ cs I J W)) h (fun _ => rfl))
theorem tn_117_1 {d : Nat} {κ : Nat × Option Nat} {cs : Nat × Nat} {J : Nat → Nat → Int64} {W : Nat} : ∀ (n : Nat) (x1 : Int32) (x2 : Int32) (I : (Nat → Nat → Int32)) (r : Int32), fx (fun _ _ _ => none) (bd_117_1 ) n x1 x2 I = some r → tt (d + 1) me_117 bk_117_1 [some (.ref 58), some (.int x1), some (.int x2)] [] (cw κ cs I J W) (.inl (some (.int r))) (cw κ cs I J W)
  | 0 => fun _ _ _ _ h => nomatch h
  | n + 1 => fun x1 x2 I r h => tb_117_1  (fx _ (bd_117_1 ) n) (tn_117_1  n) x1 x2 I r h
theorem tl_117_1 {d : Nat} {κ : Nat × Option Nat} {cs : Nat × Nat} {J : Nat → Nat → Int64} {W : Nat} (x1 : Int32) (x2 : Int32) (I : (Nat → Nat → Int32)) (r : Int32) (h : lb_117_1  x1 x2 I = some r) : tt (d + 1) me_117 bk_117_1 [some (.ref 58), some (.int x1), some (.int x2)] [] (cw κ cs I J W) (.inl (some (.int r))) (cw κ cs I J W) := tn_117_1  FU x1 x2 I r h
theorem m_117 {d : Nat} {κ : Nat × Option Nat} {cs : Nat × Nat} {J : Nat → Nat → Int64} {W : Nat} {I : (Nat → Nat → Int32)} {r : Int32} (h : f_117  I = some r) : tm (d + 1) 117 [.ref 58] (cw κ cs I J W) (.inl (some (.int r))) (cw κ cs I J W) :=
  tm_of me_117 rfl (Nat.le_of_ble_eq_true rfl) (
  tt_K (L1 := (bk_117_0.drop 4)) 4 [some (.ref 58), none, none] [] (cw κ cs I J W) (fun _ => rfl) (m_at 59 60 (0 : Int32) (Nat.le_of_ble_eq_true rfl) rfl)
  (tt_J (L1 := bk_117_1) 2 [some (.ref 58), some (.int (atf (I 59) 60 (0 : Int32))), some (.int (1 : Int32))] [] (cw κ cs I J W) (fun _ => rfl) (tt_F [some (.ref 58), some (.int (atf (I 59) 60 (0 : Int32))), some (.int (1 : Int32))] (And.intro rfl (And.intro rfl (And.intro rfl trivial))) (tl_117_1  (atf (I 59) 60 (0 : Int32)) (1 : Int32) I _ h))))
/- 116 -/
def bd_116_1 (c1 : Int32 → Int32 → (Nat → Nat → Int32) → Option (Nat → Nat → Int32)) (x1 : Int32) (x2 : Int32) (I : (Nat → Nat → Int32)) : Option (Nat → Nat → Int32) :=
  (if x2 < (I 79 4) then ((f_54 x1 (atf (I 59) 60 x2) I).bind fun q1 => (let I2 := putf I 59 60 x2 q1
  (c1 x1 (x2 + (1 : Int32)) I2))) else (some I))
def lb_116_1 : Int32 → Int32 → (Nat → Nat → Int32) → Option (Nat → Nat → Int32) := fx (fun _ _ _ => none) (bd_116_1 ) FU
def f_116 (x1 : Int32) (I : (Nat → Nat → Int32)) : Option (Nat → Nat → Int32) :=
  (lb_116_1  x1 (0 : Int32) I)
theorem tb_116_1 {d : Nat} {κ : Nat × Option Nat} {cs : Nat × Nat} {J : Nat → Nat → Int64} {W : Nat} (c1 : Int32 → Int32 → (Nat → Nat → Int32) → Option (Nat → Nat → Int32)) (k1 : ∀ (x1 : Int32) (x2 : Int32) (I : (Nat → Nat → Int32)) (r : (Nat → Nat → Int32)), c1 x1 x2 I = some r → tt (d + 3) me_116 bk_116_1 [some (.ref 58), some (.int x1), some (.int x2)] [] (cw κ cs I J W) (.inl none) (cw κ cs r J W)) (x1 : Int32) (x2 : Int32) (I : (Nat → Nat → Int32)) (r : (Nat → Nat → Int32)) (h : bd_116_1  c1 x1 x2 I = some r) : tt (d + 3) me_116 bk_116_1 [some (.ref 58), some (.int x1), some (.int x2)] [] (cw κ cs I J W) (.inl none) (cw κ cs r J W) :=
  tt_I (L1 := (bk_116_1.drop 5)) (L2 := bk_116_2) 5 [some (.ref 58), some (.int x1), some (.int x2)] [] (cw κ cs I J W) h (fun _ => rfl) (fun h =>
  tt_K (L1 := (bk_116_1.drop 15)) 10 [some (.ref 58), some (.int x1), some (.int x2)] [.int x1, .ref 79, .int x2, .ref 59] (cw κ cs I J W) (fun _ => rfl) (m_at 59 60 x2 (Nat.le_of_ble_eq_true rfl) rfl)
  (tt_C (L1 := (bk_116_1.drop 16)) 1 [some (.ref 58), some (.int x1), some (.int x2)] [.int x2, .ref 59] (cw κ cs I J W) h (fun _ => rfl) (fun _ e => m_54 (d := d) e) fun q1 h =>
  let I2 := putf I 59 60 x2 q1
  tt_K (L1 := (bk_116_1.drop 17)) 1 [some (.ref 58), some (.int x1), some (.int x2)] [] (cw κ cs I J W) (fun _ => rfl) (m_put 59 60 x2 q1 (Nat.le_of_ble_eq_true rfl) rfl (Nat.le_of_ble_eq_true rfl))
  (tt_J (L1 := bk_116_1) 1 [some (.ref 58), some (.int x1), some (.int (x2 + (1 : Int32)))] [] (cw κ cs I2 J W) (fun _ => rfl) (tt_F [some (.ref 58), some (.int x1), some (.int (x2 + (1 : Int32)))] (And.intro rfl (And.intro rfl (And.intro rfl trivial))) (k1 x1 (x2 + (1 : Int32)) I2 _ h))))) (fun h =>
  tt_R 1 (fun r => (.inl none)) (fun r => (cw κ cs r J W)) h (fun _ => rfl))
theorem tn_116_1 {d : Nat} {κ : Nat × Option Nat} {cs : Nat × Nat} {J : Nat → Nat → Int64} {W : Nat} : ∀ (n : Nat) (x1 : Int32) (x2 : Int32) (I : (Nat → Nat → Int32)) (r : (Nat → Nat → Int32)), fx (fun _ _ _ => none) (bd_116_1 ) n x1 x2 I = some r → tt (d + 3) me_116 bk_116_1 [some (.ref 58), some (.int x1), some (.int x2)] [] (cw κ cs I J W) (.inl none) (cw κ cs r J W)
  | 0 => fun _ _ _ _ h => nomatch h
  | n + 1 => fun x1 x2 I r h => tb_116_1  (fx _ (bd_116_1 ) n) (tn_116_1  n) x1 x2 I r h
theorem tl_116_1 {d : Nat} {κ : Nat × Option Nat} {cs : Nat × Nat} {J : Nat → Nat → Int64} {W : Nat} (x1 : Int32) (x2 : Int32) (I : (Nat → Nat → Int32)) (r : (Nat → Nat → Int32)) (h : lb_116_1  x1 x2 I = some r) : tt (d + 3) me_116 bk_116_1 [some (.ref 58), some (.int x1), some (.int x2)] [] (cw κ cs I J W) (.inl none) (cw κ cs r J W) := tn_116_1  FU x1 x2 I r h
theorem m_116 {d : Nat} {κ : Nat × Option Nat} {cs : Nat × Nat} {J : Nat → Nat → Int64} {W : Nat} {x1 : Int32} {I : (Nat → Nat → Int32)} {r : (Nat → Nat → Int32)} (h : f_116 x1 I = some r) : tm (d + 3) 116 [.ref 58, .int x1] (cw κ cs I J W) (.inl none) (cw κ cs r J W) :=
  tm_of me_116 rfl (Nat.le_of_ble_eq_true rfl) (
  tt_J (L1 := bk_116_1) 1 [some (.ref 58), some (.int x1), some (.int (0 : Int32))] [] (cw κ cs I J W) (fun _ => rfl) (tt_F [some (.ref 58), some (.int x1), some (.int (0 : Int32))] (And.intro rfl (And.intro rfl (And.intro rfl trivial))) (tl_116_1  x1 (0 : Int32) I _ h)))
/- 95 -/
def bd_95_2 (c2 : Int32 → Int32 → (Nat → Nat → Int32) → Option ((Int32 ⊕ Nat) × (Nat → Nat → Int32))) (x1 : Int32) (x2 : Int32) (I : (Nat → Nat → Int32)) : Option ((Int32 ⊕ Nat) × (Nat → Nat → Int32)) :=
  (if x2 < x1 then ((f_116 x2 I).bind fun q4 => (c2 x1 (x2 + (1 : Int32)) q4)) else ((f_117  I).bind fun q3 => (some ((.inl q3), I))))
def lb_95_2 : Int32 → Int32 → (Nat → Nat → Int32) → Option ((Int32 ⊕ Nat) × (Nat → Nat → Int32)) := fx (fun _ _ _ => none) (bd_95_2 ) FU
def f_95 (x1 : Int32) (I : (Nat → Nat → Int32)) : Option ((Int32 ⊕ Nat) × (Nat → Nat → Int32)) :=
  ((f_122 x1 (0 : Int32) (60 : Int32) ).bind fun q1 => (if q1 = 0 then (some ((.inr 0), I)) else ((f_115  I).bind fun q2 => (lb_95_2  x1 (0 : Int32) q2))))
theorem tb_95_2 {d : Nat} {κ : Nat × Option Nat} {cs : Nat × Nat} {J : Nat → Nat → Int64} {W : Nat} (c2 : Int32 → Int32 → (Nat → Nat → Int32) → Option ((Int32 ⊕ Nat) × (Nat → Nat → Int32))) (k2 : ∀ (x1 : Int32) (x2 : Int32) (I : (Nat → Nat → Int32)) (r : ((Int32 ⊕ Nat) × (Nat → Nat → Int32))), c2 x1 x2 I = some r → tt (d + 4) me_95 bk_95_2 [some (.ref 58), some (.int x1), some (.int x2)] [] (cw κ cs I J W) (xi r.1) (cw κ (xc cs r.1) r.2 J W)) (x1 : Int32) (x2 : Int32) (I : (Nat → Nat → Int32)) (r : ((Int32 ⊕ Nat) × (Nat → Nat → Int32))) (h : bd_95_2  c2 x1 x2 I = some r) : tt (d + 4) me_95 bk_95_2 [some (.ref 58), some (.int x1), some (.int x2)] [] (cw κ cs I J W) (xi r.1) (cw κ (xc cs r.1) r.2 J W) :=
  tt_I (L1 := (bk_95_2.drop 3)) (L2 := bk_95_3) 3 [some (.ref 58), some (.int x1), some (.int x2)] [] (cw κ cs I J W) h (fun _ => rfl) (fun h =>
  tt_C (L1 := (bk_95_2.drop 6)) 3 [some (.ref 58), some (.int x1), some (.int x2)] [] (cw κ cs I J W) h (fun _ => rfl) (fun _ e => m_116 (d := d) e) fun q4 h =>
  tt_J (L1 := bk_95_2) 1 [some (.ref 58), some (.int x1), some (.int (x2 + (1 : Int32)))] [] (cw κ cs q4 J W) (fun _ => rfl) (tt_F [some (.ref 58), some (.int x1), some (.int (x2 + (1 : Int32)))] (And.intro rfl (And.intro rfl (And.intro rfl trivial))) (k2 x1 (x2 + (1 : Int32)) q4 _ h))) (fun h =>
  tt_C (L1 := (bk_95_3.drop 2)) 2 [some (.ref 58), some (.int x1), some (.int x2)] [] (cw κ cs I J W) h (fun _ => rfl) (fun _ e => m_117 (d := d + 2) e) fun q3 h =>
  tt_R 1 (fun r => (xi r.1)) (fun r => (cw κ (xc cs r.1) r.2 J W)) h (fun _ => rfl))
theorem tn_95_2 {d : Nat} {κ : Nat × Option Nat} {cs : Nat × Nat} {J : Nat → Nat → Int64} {W : Nat} : ∀ (n : Nat) (x1 : Int32) (x2 : Int32) (I : (Nat → Nat → Int32)) (r : ((Int32 ⊕ Nat) × (Nat → Nat → Int32))), fx (fun _ _ _ => none) (bd_95_2 ) n x1 x2 I = some r → tt (d + 4) me_95 bk_95_2 [some (.ref 58), some (.int x1), some (.int x2)] [] (cw κ cs I J W) (xi r.1) (cw κ (xc cs r.1) r.2 J W)
  | 0 => fun _ _ _ _ h => nomatch h
  | n + 1 => fun x1 x2 I r h => tb_95_2  (fx _ (bd_95_2 ) n) (tn_95_2  n) x1 x2 I r h
theorem tl_95_2 {d : Nat} {κ : Nat × Option Nat} {cs : Nat × Nat} {J : Nat → Nat → Int64} {W : Nat} (x1 : Int32) (x2 : Int32) (I : (Nat → Nat → Int32)) (r : ((Int32 ⊕ Nat) × (Nat → Nat → Int32))) (h : lb_95_2  x1 x2 I = some r) : tt (d + 4) me_95 bk_95_2 [some (.ref 58), some (.int x1), some (.int x2)] [] (cw κ cs I J W) (xi r.1) (cw κ (xc cs r.1) r.2 J W) := tn_95_2  FU x1 x2 I r h
theorem m_95 {d : Nat} {κ : Nat × Option Nat} {cs : Nat × Nat} {J : Nat → Nat → Int64} {W : Nat} {x1 : Int32} {I : (Nat → Nat → Int32)} {r : ((Int32 ⊕ Nat) × (Nat → Nat → Int32))} (h : f_95 x1 I = some r) : tm (d + 4) 95 [.ref 58, .int x1] (cw κ cs I J W) (xi r.1) (cw κ (xc cs r.1) r.2 J W) :=
  tm_of me_95 rfl (Nat.le_of_ble_eq_true rfl) (
  tt_C (L1 := (bk_95_0.drop 4)) 4 [some (.ref 58), some (.int x1), none] [] (cw κ cs I J W) h (fun _ => rfl) (fun _ e => m_122 (d := d + 3) e) fun q1 h =>
  tt_I (L1 := (bk_95_0.drop 5)) (L2 := bk_95_1) 1 [some (.ref 58), some (.int x1), none] [] (cw κ cs I J W) h (fun _ => rfl) (fun h =>
  tt_R 1 (fun r => (xi r.1)) (fun r => (cw κ (xc cs r.1) r.2 J W)) h (fun _ => rfl)) (fun h =>
  tt_C (L1 := (bk_95_1.drop 2)) 2 [some (.ref 58), some (.int x1), none] [] (cw κ cs I J W) h (fun _ => rfl) (fun _ e => m_115 (d := d + 3) e) fun q2 h =>
  tt_J (L1 := bk_95_2) 1 [some (.ref 58), some (.int x1), some (.int (0 : Int32))] [] (cw κ cs q2 J W) (fun _ => rfl) (tt_F [some (.ref 58), some (.int x1), some (.int (0 : Int32))] (And.intro rfl (And.intro rfl (And.intro rfl trivial))) (tl_95_2  x1 (0 : Int32) q2 _ h))))
/- 96 -/
def bd_96_1 (c1 : Int32 → (Nat → Nat → Int32) → Option (Int32 × (Nat → Nat → Int32))) (x1 : Int32) (I : (Nat → Nat → Int32)) : Option (Int32 × (Nat → Nat → Int32)) :=
  (if (60 : Int32) < x1 then (some (((-1) : Int32), I)) else ((f_117  I).bind fun q2 => (if q2 = ((-1) : Int32) then ((f_116 x1 I).bind fun q3 => (c1 (x1 + (1 : Int32)) q3)) else (some (x1, I)))))
def lb_96_1 : Int32 → (Nat → Nat → Int32) → Option (Int32 × (Nat → Nat → Int32)) := fx (fun _ _ => none) (bd_96_1 ) FU
def f_96 (I : (Nat → Nat → Int32)) : Option (Int32 × (Nat → Nat → Int32)) :=
  ((f_115  I).bind fun q1 => (lb_96_1  (0 : Int32) q1))
theorem tb_96_1 {d : Nat} {κ : Nat × Option Nat} {cs : Nat × Nat} {J : Nat → Nat → Int64} {W : Nat} (c1 : Int32 → (Nat → Nat → Int32) → Option (Int32 × (Nat → Nat → Int32))) (k1 : ∀ (x1 : Int32) (I : (Nat → Nat → Int32)) (r : (Int32 × (Nat → Nat → Int32))), c1 x1 I = some r → tt (d + 4) me_96 bk_96_1 [some (.ref 58), some (.int x1)] [] (cw κ cs I J W) (.inl (some (.int r.1))) (cw κ cs r.2 J W)) (x1 : Int32) (I : (Nat → Nat → Int32)) (r : (Int32 × (Nat → Nat → Int32))) (h : bd_96_1  c1 x1 I = some r) : tt (d + 4) me_96 bk_96_1 [some (.ref 58), some (.int x1)] [] (cw κ cs I J W) (.inl (some (.int r.1))) (cw κ cs r.2 J W) :=
  tt_I (L1 := bk_96_3) (L2 := (bk_96_1.drop 3)) 3 [some (.ref 58), some (.int x1)] [] (cw κ cs I J W) h (fun _ => rfl) (fun h =>
  tt_R 2 (fun r => (.inl (some (.int r.1)))) (fun r => (cw κ cs r.2 J W)) h (fun _ => rfl)) (fun h =>
  tt_C (L1 := (bk_96_1.drop 5)) 2 [some (.ref 58), some (.int x1)] [] (cw κ cs I J W) h (fun _ => rfl) (fun _ e => m_117 (d := d + 2) e) fun q2 h =>
  tt_I (L1 := bk_96_2) (L2 := (bk_96_1.drop 7)) 2 [some (.ref 58), some (.int x1)] [] (cw κ cs I J W) h (fun _ => rfl) (fun h =>
  tt_C (L1 := (bk_96_2.drop 3)) 3 [some (.ref 58), some (.int x1)] [] (cw κ cs I J W) h (fun _ => rfl) (fun _ e => m_116 (d := d) e) fun q3 h =>
  tt_J (L1 := bk_96_1) 1 [some (.ref 58), some (.int (x1 + (1 : Int32)))] [] (cw κ cs q3 J W) (fun _ => rfl) (tt_F [some (.ref 58), some (.int (x1 + (1 : Int32)))] (And.intro rfl (And.intro rfl trivial)) (k1 (x1 + (1 : Int32)) q3 _ h))) (fun h =>
  tt_R 2 (fun r => (.inl (some (.int r.1)))) (fun r => (cw κ cs r.2 J W)) h (fun _ => rfl)))
theorem tn_96_1 {d : Nat} {κ : Nat × Option Nat} {cs : Nat × Nat} {J : Nat → Nat → Int64} {W : Nat} : ∀ (n : Nat) (x1 : Int32) (I : (Nat → Nat → Int32)) (r : (Int32 × (Nat → Nat → Int32))), fx (fun _ _ => none) (bd_96_1 ) n x1 I = some r → tt (d + 4) me_96 bk_96_1 [some (.ref 58), some (.int x1)] [] (cw κ cs I J W) (.inl (some (.int r.1))) (cw κ cs r.2 J W)
  | 0 => fun _ _ _ h => nomatch h
  | n + 1 => fun x1 I r h => tb_96_1  (fx _ (bd_96_1 ) n) (tn_96_1  n) x1 I r h
theorem tl_96_1 {d : Nat} {κ : Nat × Option Nat} {cs : Nat × Nat} {J : Nat → Nat → Int64} {W : Nat} (x1 : Int32) (I : (Nat → Nat → Int32)) (r : (Int32 × (Nat → Nat → Int32))) (h : lb_96_1  x1 I = some r) : tt (d + 4) me_96 bk_96_1 [some (.ref 58), some (.int x1)] [] (cw κ cs I J W) (.inl (some (.int r.1))) (cw κ cs r.2 J W) := tn_96_1  FU x1 I r h
theorem m_96 {d : Nat} {κ : Nat × Option Nat} {cs : Nat × Nat} {J : Nat → Nat → Int64} {W : Nat} {I : (Nat → Nat → Int32)} {r : (Int32 × (Nat → Nat → Int32))} (h : f_96  I = some r) : tm (d + 4) 96 [.ref 58] (cw κ cs I J W) (.inl (some (.int r.1))) (cw κ cs r.2 J W) :=
  tm_of me_96 rfl (Nat.le_of_ble_eq_true rfl) (
  tt_C (L1 := (bk_96_0.drop 2)) 2 [some (.ref 58), none] [] (cw κ cs I J W) h (fun _ => rfl) (fun _ e => m_115 (d := d + 3) e) fun q1 h =>
  tt_J (L1 := bk_96_1) 1 [some (.ref 58), some (.int (0 : Int32))] [] (cw κ cs q1 J W) (fun _ => rfl) (tt_F [some (.ref 58), some (.int (0 : Int32))] (And.intro rfl (And.intro rfl trivial)) (tl_96_1  (0 : Int32) q1 _ h)))
/- 98 -/
def lb_98_1 (I : (Nat → Nat → Int32)) : Option (Int32 ⊕ Nat) :=
  (some (.inr 1))
def f_98 (x1 : Int32) (I : (Nat → Nat → Int32)) : Option (Int32 ⊕ Nat) :=
  (if x1 < 0 then (lb_98_1   I) else (if x1 < (I 84 6) then ((f_84 x1 I).bind fun q1 => (some (.inl q1))) else (lb_98_1   I)))
theorem tl_98_1 {d : Nat} {κ : Nat × Option Nat} {cs : Nat × Nat} {J : Nat → Nat → Int64} {W : Nat} (I : (Nat → Nat → Int32)) (r : (Int32 ⊕ Nat)) (h : lb_98_1   I = some r) : tt (d + 2) me_98 bk_98_1 [none, none] [] (cw κ cs I J W) (xi r) (cw κ (xc cs r) I J W) :=
  tt_R 1 (fun r => (xi r)) (fun r => (cw κ (xc cs r) I J W)) h (fun _ => rfl)
theorem m_98 {d : Nat} {κ : Nat × Option Nat} {cs : Nat × Nat} {J : Nat → Nat → Int64} {W : Nat} {x1 : Int32} {I : (Nat → Nat → Int32)} {r : (Int32 ⊕ Nat)} (h : f_98 x1 I = some r) : tm (d + 2) 98 [.ref 58, .int x1] (cw κ cs I J W) (xi r) (cw κ (xc cs r) I J W) :=
  tm_of me_98 rfl (Nat.le_of_ble_eq_true rfl) (
  tt_I (L1 := bk_98_1) (L2 := (bk_98_0.drop 2)) 2 [some (.ref 58), some (.int x1)] [] (cw κ cs I J W) h (fun _ => rfl) (fun h =>
  tt_F [none, none] trivial (tl_98_1   I _ h)) (fun h =>
  tt_I (L1 := bk_98_2) (L2 := bk_98_1) 5 [some (.ref 58), some (.int x1)] [] (cw κ cs I J W) h (fun _ => rfl) (fun h =>
  tt_C (L1 := (bk_98_2.drop 4)) 4 [some (.ref 58), some (.int x1)] [] (cw κ cs I J W) h (fun _ => rfl) (fun _ e => m_84 (d := d) e) fun q1 h =>
  tt_R 1 (fun r => (xi r)) (fun r => (cw κ (xc cs r) I J W)) h (fun _ => rfl)) (fun h =>
  tt_F [none, none] trivial (tl_98_1   I _ h))))
/- 118 -/
def lb_118_2 (x2 : Int64) (I : (Nat → Nat → Int32)) : Option Int64 :=
  (some x2)
def bd_118_1 (c1 : Int32 → Int64 → Int32 → Int32 → (Nat → Nat → Int32) → Option Int64) (x1 : Int32) (x2 : Int64) (x4 : Int32) (x5 : Int32) (I : (Nat → Nat → Int32)) : Option Int64 :=
  (if x5 < (60 : Int32) then (if x4 = x1 then (lb_118_2  x2 I) else ((f_10 x4 I).bind fun q2 => (c1 x1 (x2 ||| ((1 : Int64) <<< ((x4).toInt64 &&& 63))) q2 (x5 + (1 : Int32)) I))) else (lb_118_2  x2 I))
def lb_118_1 : Int32 → Int64 → Int32 → Int32 → (Nat → Nat → Int32) → Option Int64 := fx (fun _ _ _ _ _ => none) (bd_118_1 ) FU
def f_118 (x1 : Int32) (I : (Nat → Nat → Int32)) : Option Int64 :=
  ((f_10 x1 I).bind fun q1 => (lb_118_1  x1 ((1 : Int64) <<< ((x1).toInt64 &&& 63)) q1 (0 : Int32) I))
theorem tl_118_2 {d : Nat} {κ : Nat × Option Nat} {cs : Nat × Nat} {J : Nat → Nat → Int64} {W : Nat} (x2 : Int64) (I : (Nat → Nat → Int32)) (r : Int64) (h : lb_118_2  x2 I = some r) : tt (d + 3) me_118 bk_118_2 [none, none, some (.long x2), none, none, none] [] (cw κ cs I J W) (.inl (some (.long r))) (cw κ cs I J W) :=
  tt_R 2 (fun r => (.inl (some (.long r)))) (fun r => (cw κ cs I J W)) h (fun _ => rfl)
theorem tb_118_1 {d : Nat} {κ : Nat × Option Nat} {cs : Nat × Nat} {J : Nat → Nat → Int64} {W : Nat} (c1 : Int32 → Int64 → Int32 → Int32 → (Nat → Nat → Int32) → Option Int64) (k1 : ∀ (x1 : Int32) (x2 : Int64) (x4 : Int32) (x5 : Int32) (I : (Nat → Nat → Int32)) (r : Int64), c1 x1 x2 x4 x5 I = some r → tt (d + 3) me_118 bk_118_1 [some (.ref 58), some (.int x1), some (.long x2), none, some (.int x4), some (.int x5)] [] (cw κ cs I J W) (.inl (some (.long r))) (cw κ cs I J W)) (x1 : Int32) (x2 : Int64) (x4 : Int32) (x5 : Int32) (I : (Nat → Nat → Int32)) (r : Int64) (h : bd_118_1  c1 x1 x2 x4 x5 I = some r) : tt (d + 3) me_118 bk_118_1 [some (.ref 58), some (.int x1), some (.long x2), none, some (.int x4), some (.int x5)] [] (cw κ cs I J W) (.inl (some (.long r))) (cw κ cs I J W) :=
  tt_I (L1 := (bk_118_1.drop 3)) (L2 := bk_118_2) 3 [some (.ref 58), some (.int x1), some (.long x2), none, some (.int x4), some (.int x5)] [] (cw κ cs I J W) h (fun _ => rfl) (fun h =>
  tt_I (L1 := bk_118_2) (L2 := (bk_118_1.drop 6)) 3 [some (.ref 58), some (.int x1), some (.long x2), none, some (.int x4), some (.int x5)] [] (cw κ cs I J W) h (fun _ => rfl) (fun h =>
  tt_F [none, none, some (.long x2), none, none, none] (And.intro rfl trivial) (tl_118_2  x2 I _ h)) (fun h =>
  tt_C (L1 := (bk_118_1.drop 16)) 10 [some (.ref 58), some (.int x1), some (.long (x2 ||| ((1 : Int64) <<< ((x4).toInt64 &&& 63)))), none, some (.int x4), some (.int x5)] [] (cw κ cs I J W) h (fun _ => rfl) (fun _ e => m_10 (d := d) e) fun q2 h =>
  tt_J (L1 := bk_118_1) 2 [some (.ref 58), some (.int x1), some (.long (x2 ||| ((1 : Int64) <<< ((x4).toInt64 &&& 63)))), none, some (.int q2), some (.int (x5 + (1 : Int32)))] [] (cw κ cs I J W) (fun _ => rfl) (tt_F [some (.ref 58), some (.int x1), some (.long (x2 ||| ((1 : Int64) <<< ((x4).toInt64 &&& 63)))), none, some (.int q2), some (.int (x5 + (1 : Int32)))] (And.intro rfl (And.intro rfl (And.intro rfl (And.intro rfl (And.intro rfl trivial))))) (k1 x1 (x2 ||| ((1 : Int64) <<< ((x4).toInt64 &&& 63))) q2 (x5 + (1 : Int32)) I _ h)))) (fun h =>
  tt_F [none, none, some (.long x2), none, none, none] (And.intro rfl trivial) (tl_118_2  x2 I _ h))
theorem tn_118_1 {d : Nat} {κ : Nat × Option Nat} {cs : Nat × Nat} {J : Nat → Nat → Int64} {W : Nat} : ∀ (n : Nat) (x1 : Int32) (x2 : Int64) (x4 : Int32) (x5 : Int32) (I : (Nat → Nat → Int32)) (r : Int64), fx (fun _ _ _ _ _ => none) (bd_118_1 ) n x1 x2 x4 x5 I = some r → tt (d + 3) me_118 bk_118_1 [some (.ref 58), some (.int x1), some (.long x2), none, some (.int x4), some (.int x5)] [] (cw κ cs I J W) (.inl (some (.long r))) (cw κ cs I J W)
  | 0 => fun _ _ _ _ _ _ h => nomatch h
  | n + 1 => fun x1 x2 x4 x5 I r h => tb_118_1  (fx _ (bd_118_1 ) n) (tn_118_1  n) x1 x2 x4 x5 I r h
theorem tl_118_1 {d : Nat} {κ : Nat × Option Nat} {cs : Nat × Nat} {J : Nat → Nat → Int64} {W : Nat} (x1 : Int32) (x2 : Int64) (x4 : Int32) (x5 : Int32) (I : (Nat → Nat → Int32)) (r : Int64) (h : lb_118_1  x1 x2 x4 x5 I = some r) : tt (d + 3) me_118 bk_118_1 [some (.ref 58), some (.int x1), some (.long x2), none, some (.int x4), some (.int x5)] [] (cw κ cs I J W) (.inl (some (.long r))) (cw κ cs I J W) := tn_118_1  FU x1 x2 x4 x5 I r h
theorem m_118 {d : Nat} {κ : Nat × Option Nat} {cs : Nat × Nat} {J : Nat → Nat → Int64} {W : Nat} {x1 : Int32} {I : (Nat → Nat → Int32)} {r : Int64} (h : f_118 x1 I = some r) : tm (d + 3) 118 [.ref 58, .int x1] (cw κ cs I J W) (.inl (some (.long r))) (cw κ cs I J W) :=
  tm_of me_118 rfl (Nat.le_of_ble_eq_true rfl) (
  tt_C (L1 := (bk_118_0.drop 8)) 8 [some (.ref 58), some (.int x1), some (.long ((1 : Int64) <<< ((x1).toInt64 &&& 63))), none, none, none] [] (cw κ cs I J W) h (fun _ => rfl) (fun _ e => m_10 (d := d) e) fun q1 h =>
  tt_J (L1 := bk_118_1) 2 [some (.ref 58), some (.int x1), some (.long ((1 : Int64) <<< ((x1).toInt64 &&& 63))), none, some (.int q1), some (.int (0 : Int32))] [] (cw κ cs I J W) (fun _ => rfl) (tt_F [some (.ref 58), some (.int x1), some (.long ((1 : Int64) <<< ((x1).toInt64 &&& 63))), none, some (.int q1), some (.int (0 : Int32))] (And.intro rfl (And.intro rfl (And.intro rfl (And.intro rfl (And.intro rfl trivial))))) (tl_118_1  x1 ((1 : Int64) <<< ((x1).toInt64 &&& 63)) q1 (0 : Int32) I _ h)))
/- 124 -/
def lb_124_4 (s0 : Int64) : Option Int64 :=
  (some s0)
def lb_124_2 (x0 : Int64) (x2 : Int64) (x4 : Int64) : Option Int64 :=
  (if 0 < (lg_cmp x4 (0 : Int64)) then (if x4 = 0 then none else (lb_124_4  ((x0 / x4) * x2) )) else (lb_124_4  x0 ))
def bd_124_1 (c1 : Int64 → Int64 → Int64 → Int64 → Int32 → Option Int64) (x0 : Int64) (x2 : Int64) (x4 : Int64) (x6 : Int64) (x8 : Int32) : Option Int64 :=
  (if x8 < (60 : Int32) then (if 0 < (lg_cmp x6 (0 : Int64)) then (if x6 = 0 then none else (c1 x0 x2 x6 (x4 - x4 / x6 * x6) (x8 + (1 : Int32)) )) else (lb_124_2  x0 x2 x4 )) else (lb_124_2  x0 x2 x4 ))
def lb_124_1 : Int64 → Int64 → Int64 → Int64 → Int32 → Option Int64 := fx (fun _ _ _ _ _ => none) (bd_124_1 ) FU
def f_124 (x0 : Int64) (x2 : Int64) : Option Int64 :=
  (lb_124_1  x0 x2 x0 x2 (0 : Int32) )
theorem tl_124_4 {d : Nat} {κ : Nat × Option Nat} {cs : Nat × Nat} {I : Nat → Nat → Int32} {J : Nat → Nat → Int64} {W : Nat} (s0 : Int64) (r : Int64) (h : lb_124_4  s0  = some r) : tt d me_124 bk_124_4 [none, none, none, none, none, none, none, none, none, none, none] [.long s0] (cw κ cs I J W) (.inl (some (.long r))) (cw κ cs I J W) :=
  tt_R 1 (fun r => (.inl (some (.long r)))) (fun r => (cw κ cs I J W)) h (fun _ => rfl)
theorem tl_124_2 {d : Nat} {κ : Nat × Option Nat} {cs : Nat × Nat} {I : Nat → Nat → Int32} {J : Nat → Nat → Int64} {W : Nat} (x0 : Int64) (x2 : Int64) (x4 : Int64) (r : Int64) (h : lb_124_2  x0 x2 x4  = some r) : tt d me_124 bk_124_2 [some (.long x0), none, some (.long x2), none, some (.long x4), none, none, none, none, none, none] [] (cw κ cs I J W) (.inl (some (.long r))) (cw κ cs I J W) :=
  tt_I (L1 := (bk_124_2.drop 4)) (L2 := bk_124_3) 4 [some (.long x0), none, some (.long x2), none, some (.long x4), none, none, none, none, none, none] [] (cw κ cs I J W) h (fun _ => rfl) (fun h =>
  tt_J (L1 := (bk_124_2.drop 6)) 1 [some (.long x0), none, some (.long x2), none, some (.long x4), none, none, none, none, none, none] [.long x4, .long x0] (cw κ cs I J W) (fun _ => rfl) (
  tt_Dl h fun h =>
  tt_J (L1 := bk_124_4) 2 [some (.long x0), none, some (.long x2), none, some (.long x4), none, none, none, none, none, none] [.long ((x0 / x4) * x2)] (cw κ cs I J W) (fun _ => rfl) (tt_F [none, none, none, none, none, none, none, none, none, none, none] trivial (tl_124_4  ((x0 / x4) * x2)  _ h)))) (fun h =>
  tt_J (L1 := bk_124_4) 0 [some (.long x0), none, some (.long x2), none, some (.long x4), none, none, none, none, none, none] [.long x0] (cw κ cs I J W) (fun _ => rfl) (tt_F [none, none, none, none, none, none, none, none, none, none, none] trivial (tl_124_4  x0  _ h)))
theorem tb_124_1 {d : Nat} {κ : Nat × Option Nat} {cs : Nat × Nat} {I : Nat → Nat → Int32} {J : Nat → Nat → Int64} {W : Nat} (c1 : Int64 → Int64 → Int64 → Int64 → Int32 → Option Int64) (k1 : ∀ (x0 : Int64) (x2 : Int64) (x4 : Int64) (x6 : Int64) (x8 : Int32) (r : Int64), c1 x0 x2 x4 x6 x8  = some r → tt d me_124 bk_124_1 [some (.long x0), none, some (.long x2), none, some (.long x4), none, some (.long x6), none, some (.int x8), none, none] [] (cw κ cs I J W) (.inl (some (.long r))) (cw κ cs I J W)) (x0 : Int64) (x2 : Int64) (x4 : Int64) (x6 : Int64) (x8 : Int32) (r : Int64) (h : bd_124_1  c1 x0 x2 x4 x6 x8  = some r) : tt d me_124 bk_124_1 [some (.long x0), none, some (.long x2), none, some (.long x4), none, some (.long x6), none, some (.int x8), none, none] [] (cw κ cs I J W) (.inl (some (.long r))) (cw κ cs I J W) :=
  tt_I (L1 := (bk_124_1.drop 3)) (L2 := bk_124_2) 3 [some (.long x0), none, some (.long x2), none, some (.long x4), none, some (.long x6), none, some (.int x8), none, none] [] (cw κ cs I J W) h (fun _ => rfl) (fun h =>
  tt_I (L1 := (bk_124_1.drop 7)) (L2 := bk_124_2) 4 [some (.long x0), none, some (.long x2), none, some (.long x4), none, some (.long x6), none, some (.int x8), none, none] [] (cw κ cs I J W) h (fun _ => rfl) (fun h =>
  tt_J (L1 := (bk_124_1.drop 9)) 1 [some (.long x0), none, some (.long x2), none, some (.long x4), none, some (.long x6), none, some (.int x8), none, none] [.long x6, .long x4] (cw κ cs I J W) (fun _ => rfl) (
  tt_Dm h fun h =>
  tt_J (L1 := bk_124_1) 6 [some (.long x0), none, some (.long x2), none, some (.long x6), none, some (.long (x4 - x4 / x6 * x6)), none, some (.int (x8 + (1 : Int32))), some (.long (x4 - x4 / x6 * x6)), none] [] (cw κ cs I J W) (fun _ => rfl) (tt_F [some (.long x0), none, some (.long x2), none, some (.long x6), none, some (.long (x4 - x4 / x6 * x6)), none, some (.int (x8 + (1 : Int32))), none, none] (And.intro rfl (And.intro rfl (And.intro rfl (And.intro rfl (And.intro rfl trivial))))) (k1 x0 x2 x6 (x4 - x4 / x6 * x6) (x8 + (1 : Int32))  _ h)))) (fun h =>
  tt_F [some (.long x0), none, some (.long x2), none, some (.long x4), none, none, none, none, none, none] (And.intro rfl (And.intro rfl (And.intro rfl trivial))) (tl_124_2  x0 x2 x4  _ h))) (fun h =>
  tt_F [some (.long x0), none, some (.long x2), none, some (.long x4), none, none, none, none, none, none] (And.intro rfl (And.intro rfl (And.intro rfl trivial))) (tl_124_2  x0 x2 x4  _ h))
theorem tn_124_1 {d : Nat} {κ : Nat × Option Nat} {cs : Nat × Nat} {I : Nat → Nat → Int32} {J : Nat → Nat → Int64} {W : Nat} : ∀ (n : Nat) (x0 : Int64) (x2 : Int64) (x4 : Int64) (x6 : Int64) (x8 : Int32) (r : Int64), fx (fun _ _ _ _ _ => none) (bd_124_1 ) n x0 x2 x4 x6 x8  = some r → tt d me_124 bk_124_1 [some (.long x0), none, some (.long x2), none, some (.long x4), none, some (.long x6), none, some (.int x8), none, none] [] (cw κ cs I J W) (.inl (some (.long r))) (cw κ cs I J W)
  | 0 => fun _ _ _ _ _ _ h => nomatch h
  | n + 1 => fun x0 x2 x4 x6 x8  r h => tb_124_1  (fx _ (bd_124_1 ) n) (tn_124_1  n) x0 x2 x4 x6 x8  r h
theorem tl_124_1 {d : Nat} {κ : Nat × Option Nat} {cs : Nat × Nat} {I : Nat → Nat → Int32} {J : Nat → Nat → Int64} {W : Nat} (x0 : Int64) (x2 : Int64) (x4 : Int64) (x6 : Int64) (x8 : Int32) (r : Int64) (h : lb_124_1  x0 x2 x4 x6 x8  = some r) : tt d me_124 bk_124_1 [some (.long x0), none, some (.long x2), none, some (.long x4), none, some (.long x6), none, some (.int x8), none, none] [] (cw κ cs I J W) (.inl (some (.long r))) (cw κ cs I J W) := tn_124_1  FU x0 x2 x4 x6 x8  r h
theorem m_124 {d : Nat} {κ : Nat × Option Nat} {cs : Nat × Nat} {I : Nat → Nat → Int32} {J : Nat → Nat → Int64} {W : Nat} {x0 : Int64} {x2 : Int64} {r : Int64} (h : f_124 x0 x2  = some r) : tm d 124 [.long x0, .long x2] (cw κ cs I J W) (.inl (some (.long r))) (cw κ cs I J W) :=
  tm_of me_124 rfl (Nat.le_of_ble_eq_true rfl) (
  tt_J (L1 := bk_124_1) 5 [some (.long x0), none, some (.long x2), none, some (.long x0), none, some (.long x2), none, some (.int (0 : Int32)), none, none] [] (cw κ cs I J W) (fun _ => rfl) (tt_F [some (.long x0), none, some (.long x2), none, some (.long x0), none, some (.long x2), none, some (.int (0 : Int32)), none, none] (And.intro rfl (And.intro rfl (And.intro rfl (And.intro rfl (And.intro rfl trivial))))) (tl_124_1  x0 x2 x0 x2 (0 : Int32)  _ h)))
/- 100 -/
def lb_100_3 (c2 : Int64 → Int64 → Int32 → (Nat → Nat → Int32) → Option ((Int64 ⊕ Nat) × (Nat → Nat → Int32))) (x5 : Int64) (x7 : Int64) (x9 : Int32) (I : (Nat → Nat → Int32)) : Option ((Int64 ⊕ Nat) × (Nat → Nat → Int32)) :=
  (c2 x5 x7 (x9 + (1 : Int32)) I)
def bd_100_2 (c2 : Int64 → Int64 → Int32 → (Nat → Nat → Int32) → Option ((Int64 ⊕ Nat) × (Nat → Nat → Int32))) (x5 : Int64) (x7 : Int64) (x9 : Int32) (I : (Nat → Nat → Int32)) : Option ((Int64 ⊕ Nat) × (Nat → Nat → Int32)) :=
  (if x9 < (I 79 4) then (if (lg_cmp (((x7).toUInt64 >>> ((x9).toInt64.toUInt64 &&& Int64.toUInt64 63)).toInt64 &&& (1 : Int64)) (0 : Int64)) = 0 then ((f_118 x9 I).bind fun q4 => ((f_210 q4 ).bind fun q5 => ((f_124 x5 (q5).toInt64 ).bind fun q6 => (lb_100_3 c2 q6 (x7 ||| q4) x9 I)))) else (lb_100_3 c2 x5 x7 x9 I)) else (some ((.inl x5), I)))
def lb_100_2 : Int64 → Int64 → Int32 → (Nat → Nat → Int32) → Option ((Int64 ⊕ Nat) × (Nat → Nat → Int32)) := fx (fun _ _ _ _ => none) (bd_100_2 ) FU
def f_100 (x1 : Int32) (x2 : Int32) (x3 : Int32) (x4 : Int32) (I : (Nat → Nat → Int32)) : Option ((Int64 ⊕ Nat) × (Nat → Nat → Int32)) :=
  ((f_58 x1 x2 x3 x4 I).bind fun q1 => (if q1 = 0 then (some ((.inr 0), I)) else ((f_3 x1 x2 I).bind fun q2 => ((f_4 x3 x4 x4 q2).bind fun q3 => (lb_100_2  (1 : Int64) (0 : Int64) (0 : Int32) q3)))))
theorem tl_100_3 {d : Nat} {κ : Nat × Option Nat} {cs : Nat × Nat} {J : Nat → Nat → Int64} {W : Nat} (c2 : Int64 → Int64 → Int32 → (Nat → Nat → Int32) → Option ((Int64 ⊕ Nat) × (Nat → Nat → Int32))) (k2 : ∀ (x5 : Int64) (x7 : Int64) (x9 : Int32) (I : (Nat → Nat → Int32)) (r : ((Int64 ⊕ Nat) × (Nat → Nat → Int32))), c2 x5 x7 x9 I = some r → tt (d + 4) me_100 bk_100_2 [some (.ref 58), none, none, none, none, some (.long x5), none, some (.long x7), none, some (.int x9), none, none] [] (cw κ cs I J W) (xl r.1) (cw κ (xc cs r.1) r.2 J W)) (x5 : Int64) (x7 : Int64) (x9 : Int32) (I : (Nat → Nat → Int32)) (r : ((Int64 ⊕ Nat) × (Nat → Nat → Int32))) (h : lb_100_3 c2 x5 x7 x9 I = some r) : tt (d + 4) me_100 bk_100_3 [some (.ref 58), none, none, none, none, some (.long x5), none, some (.long x7), none, some (.int x9), none, none] [] (cw κ cs I J W) (xl r.1) (cw κ (xc cs r.1) r.2 J W) :=
  tt_J (L1 := bk_100_2) 1 [some (.ref 58), none, none, none, none, some (.long x5), none, some (.long x7), none, some (.int (x9 + (1 : Int32))), none, none] [] (cw κ cs I J W) (fun _ => rfl) (tt_F [some (.ref 58), none, none, none, none, some (.long x5), none, some (.long x7), none, some (.int (x9 + (1 : Int32))), none, none] (And.intro rfl (And.intro rfl (And.intro rfl (And.intro rfl trivial)))) (k2 x5 x7 (x9 + (1 : Int32)) I _ h))
theorem tb_100_2 {d : Nat} {κ : Nat × Option Nat} {cs : Nat × Nat} {J : Nat → Nat → Int64} {W : Nat} (c2 : Int64 → Int64 → Int32 → (Nat → Nat → Int32) → Option ((Int64 ⊕ Nat) × (Nat → Nat → Int32))) (k2 : ∀ (x5 : Int64) (x7 : Int64) (x9 : Int32) (I : (Nat → Nat → Int32)) (r : ((Int64 ⊕ Nat) × (Nat → Nat → Int32))), c2 x5 x7 x9 I = some r → tt (d + 4) me_100 bk_100_2 [some (.ref 58), none, none, none, none, some (.long x5), none, some (.long x7), none, some (.int x9), none, none] [] (cw κ cs I J W) (xl r.1) (cw κ (xc cs r.1) r.2 J W)) (x5 : Int64) (x7 : Int64) (x9 : Int32) (I : (Nat → Nat → Int32)) (r : ((Int64 ⊕ Nat) × (Nat → Nat → Int32))) (h : bd_100_2  c2 x5 x7 x9 I = some r) : tt (d + 4) me_100 bk_100_2 [some (.ref 58), none, none, none, none, some (.long x5), none, some (.long x7), none, some (.int x9), none, none] [] (cw κ cs I J W) (xl r.1) (cw κ (xc cs r.1) r.2 J W) :=
  tt_I (L1 := (bk_100_2.drop 5)) (L2 := bk_100_4) 5 [some (.ref 58), none, none, none, none, some (.long x5), none, some (.long x7), none, some (.int x9), none, none] [] (cw κ cs I J W) h (fun _ => rfl) (fun h =>
  tt_I (L1 := (bk_100_2.drop 13)) (L2 := bk_100_3) 8 [some (.ref 58), none, none, none, none, some (.long x5), none, some (.long x7), none, some (.int x9), none, none] [] (cw κ cs I J W) h (fun _ => rfl) (fun h =>
  tt_C (L1 := (bk_100_2.drop 16)) 3 [some (.ref 58), none, none, none, none, some (.long x5), none, some (.long x7), none, some (.int x9), none, none] [] (cw κ cs I J W) h (fun _ => rfl) (fun _ e => m_118 (d := d) e) fun q4 h =>
  tt_C (L1 := (bk_100_2.drop 24)) 8 [some (.ref 58), none, none, none, none, some (.long x5), none, some (.long (x7 ||| q4)), none, some (.int x9), some (.long q4), none] [.long x5] (cw κ cs I J W) h (fun _ => rfl) (fun _ e => m_210 (d := d + 3) e) fun q5 h =>
  tt_C (L1 := (bk_100_2.drop 26)) 2 [some (.ref 58), none, none, none, none, some (.long x5), none, some (.long (x7 ||| q4)), none, some (.int x9), some (.long q4), none] [] (cw κ cs I J W) h (fun _ => rfl) (fun _ e => m_124 (d := d + 3) e) fun q6 h =>
  tt_J (L1 := bk_100_3) 0 [some (.ref 58), none, none, none, none, some (.long q6), none, some (.long (x7 ||| q4)), none, some (.int x9), some (.long q4), none] [] (cw κ cs I J W) (fun _ => rfl) (tt_F [some (.ref 58), none, none, none, none, some (.long q6), none, some (.long (x7 ||| q4)), none, some (.int x9), none, none] (And.intro rfl (And.intro rfl (And.intro rfl (And.intro rfl trivial)))) (tl_100_3 c2 k2 q6 (x7 ||| q4) x9 I _ h))) (fun h =>
  tt_F [some (.ref 58), none, none, none, none, some (.long x5), none, some (.long x7), none, some (.int x9), none, none] (And.intro rfl (And.intro rfl (And.intro rfl (And.intro rfl trivial)))) (tl_100_3 c2 k2 x5 x7 x9 I _ h))) (fun h =>
  tt_R 2 (fun r => (xl r.1)) (fun r => (cw κ (xc cs r.1) r.2 J W)) h (fun _ => rfl))
theorem tn_100_2 {d : Nat} {κ : Nat × Option Nat} {cs : Nat × Nat} {J : Nat → Nat → Int64} {W : Nat} : ∀ (n : Nat) (x5 : Int64) (x7 : Int64) (x9 : Int32) (I : (Nat → Nat → Int32)) (r : ((Int64 ⊕ Nat) × (Nat → Nat → Int32))), fx (fun _ _ _ _ => none) (bd_100_2 ) n x5 x7 x9 I = some r → tt (d + 4) me_100 bk_100_2 [some (.ref 58), none, none, none, none, some (.long x5), none, some (.long x7), none, some (.int x9), none, none] [] (cw κ cs I J W) (xl r.1) (cw κ (xc cs r.1) r.2 J W)
  | 0 => fun _ _ _ _ _ h => nomatch h
  | n + 1 => fun x5 x7 x9 I r h => tb_100_2  (fx _ (bd_100_2 ) n) (tn_100_2  n) x5 x7 x9 I r h
theorem tl_100_2 {d : Nat} {κ : Nat × Option Nat} {cs : Nat × Nat} {J : Nat → Nat → Int64} {W : Nat} (x5 : Int64) (x7 : Int64) (x9 : Int32) (I : (Nat → Nat → Int32)) (r : ((Int64 ⊕ Nat) × (Nat → Nat → Int32))) (h : lb_100_2  x5 x7 x9 I = some r) : tt (d + 4) me_100 bk_100_2 [some (.ref 58), none, none, none, none, some (.long x5), none, some (.long x7), none, some (.int x9), none, none] [] (cw κ cs I J W) (xl r.1) (cw κ (xc cs r.1) r.2 J W) := tn_100_2  FU x5 x7 x9 I r h
theorem m_100 {d : Nat} {κ : Nat × Option Nat} {cs : Nat × Nat} {J : Nat → Nat → Int64} {W : Nat} {x1 : Int32} {x2 : Int32} {x3 : Int32} {x4 : Int32} {I : (Nat → Nat → Int32)} {r : ((Int64 ⊕ Nat) × (Nat → Nat → Int32))} (h : f_100 x1 x2 x3 x4 I = some r) : tm (d + 4) 100 [.ref 58, .int x1, .int x2, .int x3, .int x4] (cw κ cs I J W) (xl r.1) (cw κ (xc cs r.1) r.2 J W) :=
  tm_of me_100 rfl (Nat.le_of_ble_eq_true rfl) (
  tt_C (L1 := (bk_100_0.drop 7)) 7 [some (.ref 58), some (.int x1), some (.int x2), some (.int x3), some (.int x4), none, none, none, none, none, none, none] [] (cw κ cs I J W) h (fun _ => rfl) (fun _ e => m_58 (d := d + 1) e) fun q1 h =>
  tt_I (L1 := (bk_100_0.drop 8)) (L2 := bk_100_1) 1 [some (.ref 58), some (.int x1), some (.int x2), some (.int x3), some (.int x4), none, none, none, none, none, none, none] [] (cw κ cs I J W) h (fun _ => rfl) (fun h =>
  tt_R 1 (fun r => (xl r.1)) (fun r => (cw κ (xc cs r.1) r.2 J W)) h (fun _ => rfl)) (fun h =>
  tt_C (L1 := (bk_100_1.drop 5)) 5 [some (.ref 58), some (.int x1), some (.int x2), some (.int x3), some (.int x4), none, none, none, none, none, none, none] [] (cw κ cs I J W) h (fun _ => rfl) (fun _ e => m_3 (d := d + 3) e) fun q2 h =>
  tt_C (L1 := (bk_100_1.drop 11)) 6 [some (.ref 58), some (.int x1), some (.int x2), some (.int x3), some (.int x4), none, none, none, none, none, none, none] [] (cw κ cs q2 J W) h (fun _ => rfl) (fun _ e => m_4 (d := d) e) fun q3 h =>
  tt_J (L1 := bk_100_2) 5 [some (.ref 58), some (.int x1), some (.int x2), some (.int x3), some (.int x4), some (.long (1 : Int64)), none, some (.long (0 : Int64)), none, some (.int (0 : Int32)), none, none] [] (cw κ cs q3 J W) (fun _ => rfl) (tt_F [some (.ref 58), none, none, none, none, some (.long (1 : Int64)), none, some (.long (0 : Int64)), none, some (.int (0 : Int32)), none, none] (And.intro rfl (And.intro rfl (And.intro rfl (And.intro rfl trivial)))) (tl_100_2  (1 : Int64) (0 : Int64) (0 : Int32) q3 _ h))))
