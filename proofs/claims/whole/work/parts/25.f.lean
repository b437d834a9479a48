/-! functions, by wip/whole/sy.py -/
/- 86 -/
def bd_86_3 (c3 : Int64 → Int64 → Int32 → (Nat → Nat → Int32) → Option (Int64 × (Nat → Nat → Int32))) (x3 : Int64) (x5 : Int64) (x7 : Int32) (I : (Nat → Nat → Int32)) : Option (Int64 × (Nat → Nat → Int32)) :=
  (if x7 < (I 79 4) then ((f_10 x7 I).bind fun q4 => (c3 x3 (x5 ||| ((((x3).toUInt64 >>> ((q4).toInt64.toUInt64 &&& Int64.toUInt64 63)).toInt64 &&& (1 : Int64)) <<< ((x7).toInt64 &&& 63))) (x7 + (1 : Int32)) I)) else (some (x5, I)))
def lb_86_3 : Int64 → Int64 → Int32 → (Nat → Nat → Int32) → Option (Int64 × (Nat → Nat → Int32)) := fx (fun _ _ _ _ => none) (bd_86_3 ) FU
def bd_86_1 (c1 : Int32 → Int64 → Int32 → (Nat → Nat → Int32) → Option (Int64 × (Nat → Nat → Int32))) (x2 : Int32) (x3 : Int64) (x5 : Int32) (I : (Nat → Nat → Int32)) : Option (Int64 × (Nat → Nat → Int32)) :=
  (if x5 < (I 79 5) then ((f_7 x5 x2 I).bind fun q5 => (c1 x2 x3 (x5 + (1 : Int32)) q5)) else (lb_86_3  x3 (0 : Int64) (0 : Int32) I))
def lb_86_1 : Int32 → Int64 → Int32 → (Nat → Nat → Int32) → Option (Int64 × (Nat → Nat → Int32)) := fx (fun _ _ _ _ => none) (bd_86_1 ) FU
def f_86 (x1 : Int32) (x2 : Int32) (x3 : Int64) (I : (Nat → Nat → Int32)) : Option (Int64 × (Nat → Nat → Int32)) :=
  ((f_51 x1 I).bind fun q1 => ((f_52 x1 I).bind fun q2 => ((f_3 q1 q2 I).bind fun q3 => (lb_86_1  x2 x3 (0 : Int32) q3))))
theorem tb_86_3 {d : Nat} {κ : KT} {cs : Nat × Nat} {J : Nat → Nat → Int64} {W : Nat} (c3 : Int64 → Int64 → Int32 → (Nat → Nat → Int32) → Option (Int64 × (Nat → Nat → Int32))) (k3 : ∀ (x3 : Int64) (x5 : Int64) (x7 : Int32) (I : (Nat → Nat → Int32)) (r : (Int64 × (Nat → Nat → Int32))), c3 x3 x5 x7 I = some r → tt (d + 3) me_86 bk_86_3 [some (.ref 84), none, none, some (.long x3), none, some (.long x5), none, some (.int x7)] [] (cw κ cs I J W) (.inl (some (.long r.1))) (cw κ cs r.2 J W)) (x3 : Int64) (x5 : Int64) (x7 : Int32) (I : (Nat → Nat → Int32)) (r : (Int64 × (Nat → Nat → Int32))) (h : bd_86_3  c3 x3 x5 x7 I = some r) : tt (d + 3) me_86 bk_86_3 [some (.ref 84), none, none, some (.long x3), none, some (.long x5), none, some (.int x7)] [] (cw κ cs I J W) (.inl (some (.long r.1))) (cw κ cs r.2 J W) :=
  tt_I (L1 := (bk_86_3.drop 5)) (L2 := bk_86_4) 5 [some (.ref 84), none, none, some (.long x3), none, some (.long x5), none, some (.int x7)] [] (cw κ cs I J W) h (fun _ => rfl) (fun h =>
  tt_C (L1 := (bk_86_3.drop 11)) 6 [some (.ref 84), none, none, some (.long x3), none, some (.long x5), none, some (.int x7)] [.long x3, .long x5] (cw κ cs I J W) h (fun _ => rfl) (fun _ e => m_10 (d := d) e) fun q4 h =>
  tt_J (L1 := bk_86_3) 8 [some (.ref 84), none, none, some (.long x3), none, some (.long (x5 ||| ((((x3).toUInt64 >>> ((q4).toInt64.toUInt64 &&& Int64.toUInt64 63)).toInt64 &&& (1 : Int64)) <<< ((x7).toInt64 &&& 63)))), none, some (.int (x7 + (1 : Int32)))] [] (cw κ cs I J W) (fun _ => rfl) (tt_F [some (.ref 84), none, none, some (.long x3), none, some (.long (x5 ||| ((((x3).toUInt64 >>> ((q4).toInt64.toUInt64 &&& Int64.toUInt64 63)).toInt64 &&& (1 : Int64)) <<< ((x7).toInt64 &&& 63)))), none, some (.int (x7 + (1 : Int32)))] (And.intro rfl (And.intro rfl (And.intro rfl (And.intro rfl trivial)))) (k3 x3 (x5 ||| ((((x3).toUInt64 >>> ((q4).toInt64.toUInt64 &&& Int64.toUInt64 63)).toInt64 &&& (1 : Int64)) <<< ((x7).toInt64 &&& 63))) (x7 + (1 : Int32)) I _ h))) (fun h =>
  tt_R 2 (fun r => (.inl (some (.long r.1)))) (fun r => (cw κ cs r.2 J W)) h (fun _ => rfl))
theorem tn_86_3 {d : Nat} {κ : KT} {cs : Nat × Nat} {J : Nat → Nat → Int64} {W : Nat} : ∀ (n : Nat) (x3 : Int64) (x5 : Int64) (x7 : Int32) (I : (Nat → Nat → Int32)) (r : (Int64 × (Nat → Nat → Int32))), fx (fun _ _ _ _ => none) (bd_86_3 ) n x3 x5 x7 I = some r → tt (d + 3) me_86 bk_86_3 [some (.ref 84), none, none, some (.long x3), none, some (.long x5), none, some (.int x7)] [] (cw κ cs I J W) (.inl (some (.long r.1))) (cw κ cs r.2 J W)
  | 0 => fun _ _ _ _ _ h => nomatch h
  | n + 1 => fun x3 x5 x7 I r h => tb_86_3  (fx _ (bd_86_3 ) n) (tn_86_3  n) x3 x5 x7 I r h
theorem tl_86_3 {d : Nat} {κ : KT} {cs : Nat × Nat} {J : Nat → Nat → Int64} {W : Nat} (x3 : Int64) (x5 : Int64) (x7 : Int32) (I : (Nat → Nat → Int32)) (r : (Int64 × (Nat → Nat → Int32))) (h : lb_86_3  x3 x5 x7 I = some r) : tt (d + 3) me_86 bk_86_3 [some (.ref 84), none, none, some (.long x3), none, some (.long x5), none, some (.int x7)] [] (cw κ cs I J W) (.inl (some (.long r.1))) (cw κ cs r.2 J W) := tn_86_3  FU x3 x5 x7 I r h
theorem tb_86_1 {d : Nat} {κ : KT} {cs : Nat × Nat} {J : Nat → Nat → Int64} {W : Nat} (c1 : Int32 → Int64 → Int32 → (Nat → Nat → Int32) → Option (Int64 × (Nat → Nat → Int32))) (k1 : ∀ (x2 : Int32) (x3 : Int64) (x5 : Int32) (I : (Nat → Nat → Int32)) (r : (Int64 × (Nat → Nat → Int32))), c1 x2 x3 x5 I = some r → tt (d + 3) me_86 bk_86_1 [some (.ref 84), none, some (.int x2), some (.long x3), none, some (.int x5), none, none] [] (cw κ cs I J W) (.inl (some (.long r.1))) (cw κ cs r.2 J W)) (x2 : Int32) (x3 : Int64) (x5 : Int32) (I : (Nat → Nat → Int32)) (r : (Int64 × (Nat → Nat → Int32))) (h : bd_86_1  c1 x2 x3 x5 I = some r) : tt (d + 3) me_86 bk_86_1 [some (.ref 84), none, some (.int x2), some (.long x3), none, some (.int x5), none, none] [] (cw κ cs I J W) (.inl (some (.long r.1))) (cw κ cs r.2 J W) :=
  tt_I (L1 := (bk_86_1.drop 5)) (L2 := bk_86_2) 5 [some (.ref 84), none, some (.int x2), some (.long x3), none, some (.int x5), none, none] [] (cw κ cs I J W) h (fun _ => rfl) (fun h =>
  tt_C (L1 := (bk_86_1.drop 10)) 5 [some (.ref 84), none, some (.int x2), some (.long x3), none, some (.int x5), none, none] [] (cw κ cs I J W) h (fun _ => rfl) (fun _ e => m_7 (d := d) e) fun q5 h =>
  tt_J (L1 := bk_86_1) 1 [some (.ref 84), none, some (.int x2), some (.long x3), none, some (.int (x5 + (1 : Int32))), none, none] [] (cw κ cs q5 J W) (fun _ => rfl) (tt_F [some (.ref 84), none, some (.int x2), some (.long x3), none, some (.int (x5 + (1 : Int32))), none, none] (And.intro rfl (And.intro rfl (And.intro rfl (And.intro rfl trivial)))) (k1 x2 x3 (x5 + (1 : Int32)) q5 _ h))) (fun h =>
  tt_J (L1 := bk_86_3) 3 [some (.ref 84), none, some (.int x2), some (.long x3), none, some (.long (0 : Int64)), none, some (.int (0 : Int32))] [] (cw κ cs I J W) (fun _ => rfl) (tt_F [some (.ref 84), none, none, some (.long x3), none, some (.long (0 : Int64)), none, some (.int (0 : Int32))] (And.intro rfl (And.intro rfl (And.intro rfl (And.intro rfl trivial)))) (tl_86_3  x3 (0 : Int64) (0 : Int32) I _ h)))
theorem tn_86_1 {d : Nat} {κ : KT} {cs : Nat × Nat} {J : Nat → Nat → Int64} {W : Nat} : ∀ (n : Nat) (x2 : Int32) (x3 : Int64) (x5 : Int32) (I : (Nat → Nat → Int32)) (r : (Int64 × (Nat → Nat → Int32))), fx (fun _ _ _ _ => none) (bd_86_1 ) n x2 x3 x5 I = some r → tt (d + 3) me_86 bk_86_1 [some (.ref 84), none, some (.int x2), some (.long x3), none, some (.int x5), none, none] [] (cw κ cs I J W) (.inl (some (.long r.1))) (cw κ cs r.2 J W)
  | 0 => fun _ _ _ _ _ h => nomatch h
  | n + 1 => fun x2 x3 x5 I r h => tb_86_1  (fx _ (bd_86_1 ) n) (tn_86_1  n) x2 x3 x5 I r h
theorem tl_86_1 {d : Nat} {κ : KT} {cs : Nat × Nat} {J : Nat → Nat → Int64} {W : Nat} (x2 : Int32) (x3 : Int64) (x5 : Int32) (I : (Nat → Nat → Int32)) (r : (Int64 × (Nat → Nat → Int32))) (h : lb_86_1  x2 x3 x5 I = some r) : tt (d + 3) me_86 bk_86_1 [some (.ref 84), none, some (.int x2), some (.long x3), none, some (.int x5), none, none] [] (cw κ cs I J W) (.inl (some (.long r.1))) (cw κ cs r.2 J W) := tn_86_1  FU x2 x3 x5 I r h
theorem m_86 {d : Nat} {κ : KT} {cs : Nat × Nat} {J : Nat → Nat → Int64} {W : Nat} {x1 : Int32} {x2 : Int32} {x3 : Int64} {I : (Nat → Nat → Int32)} {r : (Int64 × (Nat → Nat → Int32))} (h : f_86 x1 x2 x3 I = some r) : tm (d + 3) 86 [.ref 84, .int x1, .int x2, .long x3] (cw κ cs I J W) (.inl (some (.long r.1))) (cw κ cs r.2 J W) :=
  tm_of me_86 rfl (Nat.le_of_ble_eq_true rfl) (
  tt_C (L1 := (bk_86_0.drop 6)) 6 [some (.ref 84), some (.int x1), some (.int x2), some (.long x3), none, none, none, none] [.ref 74] (cw κ cs I J W) h (fun _ => rfl) (fun _ e => m_51 (d := d) e) fun q1 h =>
  tt_C (L1 := (bk_86_0.drop 10)) 4 [some (.ref 84), some (.int x1), some (.int x2), some (.long x3), none, none, none, none] [.int q1, .ref 74] (cw κ cs I J W) h (fun _ => rfl) (fun _ e => m_52 (d := d) e) fun q2 h =>
  tt_C (L1 := (bk_86_0.drop 11)) 1 [some (.ref 84), some (.int x1), some (.int x2), some (.long x3), none, none, none, none] [] (cw κ cs I J W) h (fun _ => rfl) (fun _ e => m_3 (d := d + 2) e) fun q3 h =>
  tt_J (L1 := bk_86_1) 1 [some (.ref 84), some (.int x1), some (.int x2), some (.long x3), none, some (.int (0 : Int32)), none, none] [] (cw κ cs q3 J W) (fun _ => rfl) (tt_F [some (.ref 84), none, some (.int x2), some (.long x3), none, some (.int (0 : Int32)), none, none] (And.intro rfl (And.intro rfl (And.intro rfl (And.intro rfl trivial)))) (tl_86_1  x2 x3 (0 : Int32) q3 _ h)))
/- 210 -/
def f_210 (x0 : Int64) : Option Int32 :=
  (some ((((((((((x0 - (((x0).toUInt64 >>> (((1 : Int32)).toInt64.toUInt64 &&& Int64.toUInt64 63)).toInt64 &&& (lN 6148914691236517205))) &&& (lN 3689348814741910323)) + ((((x0 - (((x0).toUInt64 >>> (((1 : Int32)).toInt64.toUInt64 &&& Int64.toUInt64 63)).toInt64 &&& (lN 6148914691236517205)))).toUInt64 >>> (((2 : Int32)).toInt64.toUInt64 &&& Int64.toUInt64 63)).toInt64 &&& (lN 3689348814741910323))) + (((((x0 - (((x0).toUInt64 >>> (((1 : Int32)).toInt64.toUInt64 &&& Int64.toUInt64 63)).toInt64 &&& (lN 6148914691236517205))) &&& (lN 3689348814741910323)) + ((((x0 - (((x0).toUInt64 >>> (((1 : Int32)).toInt64.toUInt64 &&& Int64.toUInt64 63)).toInt64 &&& (lN 6148914691236517205)))).toUInt64 >>> (((2 : Int32)).toInt64.toUInt64 &&& Int64.toUInt64 63)).toInt64 &&& (lN 3689348814741910323)))).toUInt64 >>> (((4 : Int32)).toInt64.toUInt64 &&& Int64.toUInt64 63)).toInt64) &&& (lN 1085102592571150095)) + (((((((x0 - (((x0).toUInt64 >>> (((1 : Int32)).toInt64.toUInt64 &&& Int64.toUInt64 63)).toInt64 &&& (lN 6148914691236517205))) &&& (lN 3689348814741910323)) + ((((x0 - (((x0).toUInt64 >>> (((1 : Int32)).toInt64.toUInt64 &&& Int64.toUInt64 63)).toInt64 &&& (lN 6148914691236517205)))).toUInt64 >>> (((2 : Int32)).toInt64.toUInt64 &&& Int64.toUInt64 63)).toInt64 &&& (lN 3689348814741910323))) + (((((x0 - (((x0).toUInt64 >>> (((1 : Int32)).toInt64.toUInt64 &&& Int64.toUInt64 63)).toInt64 &&& (lN 6148914691236517205))) &&& (lN 3689348814741910323)) + ((((x0 - (((x0).toUInt64 >>> (((1 : Int32)).toInt64.toUInt64 &&& Int64.toUInt64 63)).toInt64 &&& (lN 6148914691236517205)))).toUInt64 >>> (((2 : Int32)).toInt64.toUInt64 &&& Int64.toUInt64 63)).toInt64 &&& (lN 3689348814741910323)))).toUInt64 >>> (((4 : Int32)).toInt64.toUInt64 &&& Int64.toUInt64 63)).toInt64) &&& (lN 1085102592571150095))).toUInt64 >>> (((8 : Int32)).toInt64.toUInt64 &&& Int64.toUInt64 63)).toInt64) + ((((((((x0 - (((x0).toUInt64 >>> (((1 : Int32)).toInt64.toUInt64 &&& Int64.toUInt64 63)).toInt64 &&& (lN 6148914691236517205))) &&& (lN 3689348814741910323)) + ((((x0 - (((x0).toUInt64 >>> (((1 : Int32)).toInt64.toUInt64 &&& Int64.toUInt64 63)).toInt64 &&& (lN 6148914691236517205)))).toUInt64 >>> (((2 : Int32)).toInt64.toUInt64 &&& Int64.toUInt64 63)).toInt64 &&& (lN 3689348814741910323))) + (((((x0 - (((x0).toUInt64 >>> (((1 : Int32)).toInt64.toUInt64 &&& Int64.toUInt64 63)).toInt64 &&& (lN 6148914691236517205))) &&& (lN 3689348814741910323)) + ((((x0 - (((x0).toUInt64 >>> (((1 : Int32)).toInt64.toUInt64 &&& Int64.toUInt64 63)).toInt64 &&& (lN 6148914691236517205)))).toUInt64 >>> (((2 : Int32)).toInt64.toUInt64 &&& Int64.toUInt64 63)).toInt64 &&& (lN 3689348814741910323)))).toUInt64 >>> (((4 : Int32)).toInt64.toUInt64 &&& Int64.toUInt64 63)).toInt64) &&& (lN 1085102592571150095)) + (((((((x0 - (((x0).toUInt64 >>> (((1 : Int32)).toInt64.toUInt64 &&& Int64.toUInt64 63)).toInt64 &&& (lN 6148914691236517205))) &&& (lN 3689348814741910323)) + ((((x0 - (((x0).toUInt64 >>> (((1 : Int32)).toInt64.toUInt64 &&& Int64.toUInt64 63)).toInt64 &&& (lN 6148914691236517205)))).toUInt64 >>> (((2 : Int32)).toInt64.toUInt64 &&& Int64.toUInt64 63)).toInt64 &&& (lN 3689348814741910323))) + (((((x0 - (((x0).toUInt64 >>> (((1 : Int32)).toInt64.toUInt64 &&& Int64.toUInt64 63)).toInt64 &&& (lN 6148914691236517205))) &&& (lN 3689348814741910323)) + ((((x0 - (((x0).toUInt64 >>> (((1 : Int32)).toInt64.toUInt64 &&& Int64.toUInt64 63)).toInt64 &&& (lN 6148914691236517205)))).toUInt64 >>> (((2 : Int32)).toInt64.toUInt64 &&& Int64.toUInt64 63)).toInt64 &&& (lN 3689348814741910323)))).toUInt64 >>> (((4 : Int32)).toInt64.toUInt64 &&& Int64.toUInt64 63)).toInt64) &&& (lN 1085102592571150095))).toUInt64 >>> (((8 : Int32)).toInt64.toUInt64 &&& Int64.toUInt64 63)).toInt64)).toUInt64 >>> (((16 : Int32)).toInt64.toUInt64 &&& Int64.toUInt64 63)).toInt64) + (((((((((x0 - (((x0).toUInt64 >>> (((1 : Int32)).toInt64.toUInt64 &&& Int64.toUInt64 63)).toInt64 &&& (lN 6148914691236517205))) &&& (lN 3689348814741910323)) + ((((x0 - (((x0).toUInt64 >>> (((1 : Int32)).toInt64.toUInt64 &&& Int64.toUInt64 63)).toInt64 &&& (lN 6148914691236517205)))).toUInt64 >>> (((2 : Int32)).toInt64.toUInt64 &&& Int64.toUInt64 63)).toInt64 &&& (lN 3689348814741910323))) + (((((x0 - (((x0).toUInt64 >>> (((1 : Int32)).toInt64.toUInt64 &&& Int64.toUInt64 63)).toInt64 &&& (lN 6148914691236517205))) &&& (lN 3689348814741910323)) + ((((x0 - (((x0).toUInt64 >>> (((1 : Int32)).toInt64.toUInt64 &&& Int64.toUInt64 63)).toInt64 &&& (lN 6148914691236517205)))).toUInt64 >>> (((2 : Int32)).toInt64.toUInt64 &&& Int64.toUInt64 63)).toInt64 &&& (lN 3689348814741910323)))).toUInt64 >>> (((4 : Int32)).toInt64.toUInt64 &&& Int64.toUInt64 63)).toInt64) &&& (lN 1085102592571150095)) + (((((((x0 - (((x0).toUInt64 >>> (((1 : Int32)).toInt64.toUInt64 &&& Int64.toUInt64 63)).toInt64 &&& (lN 6148914691236517205))) &&& (lN 3689348814741910323)) + ((((x0 - (((x0).toUInt64 >>> (((1 : Int32)).toInt64.toUInt64 &&& Int64.toUInt64 63)).toInt64 &&& (lN 6148914691236517205)))).toUInt64 >>> (((2 : Int32)).toInt64.toUInt64 &&& Int64.toUInt64 63)).toInt64 &&& (lN 3689348814741910323))) + (((((x0 - (((x0).toUInt64 >>> (((1 : Int32)).toInt64.toUInt64 &&& Int64.toUInt64 63)).toInt64 &&& (lN 6148914691236517205))) &&& (lN 3689348814741910323)) + ((((x0 - (((x0).toUInt64 >>> (((1 : Int32)).toInt64.toUInt64 &&& Int64.toUInt64 63)).toInt64 &&& (lN 6148914691236517205)))).toUInt64 >>> (((2 : Int32)).toInt64.toUInt64 &&& Int64.toUInt64 63)).toInt64 &&& (lN 3689348814741910323)))).toUInt64 >>> (((4 : Int32)).toInt64.toUInt64 &&& Int64.toUInt64 63)).toInt64) &&& (lN 1085102592571150095))).toUInt64 >>> (((8 : Int32)).toInt64.toUInt64 &&& Int64.toUInt64 63)).toInt64) + ((((((((x0 - (((x0).toUInt64 >>> (((1 : Int32)).toInt64.toUInt64 &&& Int64.toUInt64 63)).toInt64 &&& (lN 6148914691236517205))) &&& (lN 3689348814741910323)) + ((((x0 - (((x0).toUInt64 >>> (((1 : Int32)).toInt64.toUInt64 &&& Int64.toUInt64 63)).toInt64 &&& (lN 6148914691236517205)))).toUInt64 >>> (((2 : Int32)).toInt64.toUInt64 &&& Int64.toUInt64 63)).toInt64 &&& (lN 3689348814741910323))) + (((((x0 - (((x0).toUInt64 >>> (((1 : Int32)).toInt64.toUInt64 &&& Int64.toUInt64 63)).toInt64 &&& (lN 6148914691236517205))) &&& (lN 3689348814741910323)) + ((((x0 - (((x0).toUInt64 >>> (((1 : Int32)).toInt64.toUInt64 &&& Int64.toUInt64 63)).toInt64 &&& (lN 6148914691236517205)))).toUInt64 >>> (((2 : Int32)).toInt64.toUInt64 &&& Int64.toUInt64 63)).toInt64 &&& (lN 3689348814741910323)))).toUInt64 >>> (((4 : Int32)).toInt64.toUInt64 &&& Int64.toUInt64 63)).toInt64) &&& (lN 1085102592571150095)) + (((((((x0 - (((x0).toUInt64 >>> (((1 : Int32)).toInt64.toUInt64 &&& Int64.toUInt64 63)).toInt64 &&& (lN 6148914691236517205))) &&& (lN 3689348814741910323)) + ((((x0 - (((x0).toUInt64 >>> (((1 : Int32)).toInt64.toUInt64 &&& Int64.toUInt64 63)).toInt64 &&& (lN 6148914691236517205)))).toUInt64 >>> (((2 : Int32)).toInt64.toUInt64 &&& Int64.toUInt64 63)).toInt64 &&& (lN 3689348814741910323))) + (((((x0 - (((x0).toUInt64 >>> (((1 : Int32)).toInt64.toUInt64 &&& Int64.toUInt64 63)).toInt64 &&& (lN 6148914691236517205))) &&& (lN 3689348814741910323)) + ((((x0 - (((x0).toUInt64 >>> (((1 : Int32)).toInt64.toUInt64 &&& Int64.toUInt64 63)).toInt64 &&& (lN 6148914691236517205)))).toUInt64 >>> (((2 : Int32)).toInt64.toUInt64 &&& Int64.toUInt64 63)).toInt64 &&& (lN 3689348814741910323)))).toUInt64 >>> (((4 : Int32)).toInt64.toUInt64 &&& Int64.toUInt64 63)).toInt64) &&& (lN 1085102592571150095))).toUInt64 >>> (((8 : Int32)).toInt64.toUInt64 &&& Int64.toUInt64 63)).toInt64)).toUInt64 >>> (((16 : Int32)).toInt64.toUInt64 &&& Int64.toUInt64 63)).toInt64)).toUInt64 >>> (((32 : Int32)).toInt64.toUInt64 &&& Int64.toUInt64 63)).toInt64)).toInt32 &&& (127 : Int32)))
theorem m_210 {d : Nat} {κ : KT} {cs : Nat × Nat} {I : Nat → Nat → Int32} {J : Nat → Nat → Int64} {W : Nat} {x0 : Int64} {r : Int32} (h : f_210 x0  = some r) : tm d 210 [.long x0] (cw κ cs I J W) (.inl (some (.int r))) (cw κ cs I J W) :=
  tm_of me_210 rfl (Nat.le_of_ble_eq_true rfl) (
  tt_R 49 (fun r => (.inl (some (.int r)))) (fun r => (cw κ cs I J W)) h (fun _ => rfl))
/- 85 -/
def lb_85_5 (c4 : Int32 → Int64 → Int32 → Int32 → Int32 → Int32 → (Nat → Nat → Int32) → Option (Nat → Nat → Int32)) (x1 : Int32) (x2 : Int64) (x4 : Int32) (x5 : Int32) (x6 : Int32) (x7 : Int32) (I : (Nat → Nat → Int32)) : Option (Nat → Nat → Int32) :=
  (c4 x1 x2 x4 x5 x6 (x7 + (1 : Int32)) I)
def bd_85_4 (c999 : Int32 → Int64 → Int32 → Int32 → (Nat → Nat → Int32) → Option (Nat → Nat → Int32)) (c4 : Int32 → Int64 → Int32 → Int32 → Int32 → Int32 → (Nat → Nat → Int32) → Option (Nat → Nat → Int32)) (x1 : Int32) (x2 : Int64) (x4 : Int32) (x5 : Int32) (x6 : Int32) (x7 : Int32) (I : (Nat → Nat → Int32)) : Option (Nat → Nat → Int32) :=
  (if x7 < (I 79 5) then ((f_86 x1 x7 x2 I).bind fun q2 => ((f_210 q2.1 ).bind fun q3 => (if (q3 * x6) < (q2.2 79 4) then (lb_85_5 c4 x1 x2 x4 x5 x6 x7 q2.2) else ((c999 (x1 - (1 : Int32)) q2.1 (x4 + (x7 * x5)) (x5 * (6 : Int32)) q2.2).bind fun q4 => (lb_85_5 c4 x1 x2 x4 x5 x6 x7 q4))))) else (some I))
def lb_85_4 (c999 : Int32 → Int64 → Int32 → Int32 → (Nat → Nat → Int32) → Option (Nat → Nat → Int32)) : Int32 → Int64 → Int32 → Int32 → Int32 → Int32 → (Nat → Nat → Int32) → Option (Nat → Nat → Int32) := fx (fun _ _ _ _ _ _ _ => none) (bd_85_4 c999) FU
def lb_85_2 (s1 : Int32) (I : (Nat → Nat → Int32)) : Option (Nat → Nat → Int32) :=
  (let I6 := up I 84 4 s1
  (let I7 := up I6 84 3 ((I6 84 3) + (1 : Int32))
  (some I7)))
def fb_85 (c999 : Int32 → Int64 → Int32 → Int32 → (Nat → Nat → Int32) → Option (Nat → Nat → Int32)) (x1 : Int32) (x2 : Int64) (x4 : Int32) (x5 : Int32) (I : (Nat → Nat → Int32)) : Option (Nat → Nat → Int32) :=
  (if x1 < 0 then (if (I 84 3) = 0 then (lb_85_2  x4 I) else ((f_213 (I 84 4) x4 ).bind fun q5 => (lb_85_2  q5 I))) else ((f_123 (I 79 5) x1 ).bind fun q1 => (lb_85_4 c999 x1 x2 x4 x5 q1 (0 : Int32) I)))
theorem tl_85_5 {d : Nat} {κ : KT} {cs : Nat × Nat} {J : Nat → Nat → Int64} {W : Nat} (c4 : Int32 → Int64 → Int32 → Int32 → Int32 → Int32 → (Nat → Nat → Int32) → Option (Nat → Nat → Int32)) (k4 : ∀ (x1 : Int32) (x2 : Int64) (x4 : Int32) (x5 : Int32) (x6 : Int32) (x7 : Int32) (I : (Nat → Nat → Int32)) (r : (Nat → Nat → Int32)), c4 x1 x2 x4 x5 x6 x7 I = some r → tt (d + 4) me_85 bk_85_4 [some (.ref 84), some (.int x1), some (.long x2), none, some (.int x4), some (.int x5), some (.int x6), some (.int x7), none, none] [] (cw κ cs I J W) (.inl none) (cw κ cs r J W)) (x1 : Int32) (x2 : Int64) (x4 : Int32) (x5 : Int32) (x6 : Int32) (x7 : Int32) (I : (Nat → Nat → Int32)) (r : (Nat → Nat → Int32)) (h : lb_85_5 c4 x1 x2 x4 x5 x6 x7 I = some r) : tt (d + 4) me_85 bk_85_5 [some (.ref 84), some (.int x1), some (.long x2), none, some (.int x4), some (.int x5), some (.int x6), some (.int x7), none, none] [] (cw κ cs I J W) (.inl none) (cw κ cs r J W) :=
  tt_J (L1 := bk_85_4) 1 [some (.ref 84), some (.int x1), some (.long x2), none, some (.int x4), some (.int x5), some (.int x6), some (.int (x7 + (1 : Int32))), none, none] [] (cw κ cs I J W) (fun _ => rfl) (tt_F [some (.ref 84), some (.int x1), some (.long x2), none, some (.int x4), some (.int x5), some (.int x6), some (.int (x7 + (1 : Int32))), none, none] (And.intro rfl (And.intro rfl (And.intro rfl (And.intro rfl (And.intro rfl (And.intro rfl (And.intro rfl trivial))))))) (k4 x1 x2 x4 x5 x6 (x7 + (1 : Int32)) I _ h))
theorem tb_85_4 {d : Nat} {κ : KT} {cs : Nat × Nat} {J : Nat → Nat → Int64} {W : Nat} (c999 : Int32 → Int64 → Int32 → Int32 → (Nat → Nat → Int32) → Option (Nat → Nat → Int32)) (k999 : ∀ (x1 : Int32) (x2 : Int64) (x4 : Int32) (x5 : Int32) (I : (Nat → Nat → Int32)) (r : (Nat → Nat → Int32)), c999 x1 x2 x4 x5 I = some r → tm (d + 3) 85 [.ref 84, .int x1, .long x2, .int x4, .int x5] (cw κ cs I J W) (.inl none) (cw κ cs r J W)) (c4 : Int32 → Int64 → Int32 → Int32 → Int32 → Int32 → (Nat → Nat → Int32) → Option (Nat → Nat → Int32)) (k4 : ∀ (x1 : Int32) (x2 : Int64) (x4 : Int32) (x5 : Int32) (x6 : Int32) (x7 : Int32) (I : (Nat → Nat → Int32)) (r : (Nat → Nat → Int32)), c4 x1 x2 x4 x5 x6 x7 I = some r → tt (d + 4) me_85 bk_85_4 [some (.ref 84), some (.int x1), some (.long x2), none, some (.int x4), some (.int x5), some (.int x6), some (.int x7), none, none] [] (cw κ cs I J W) (.inl none) (cw κ cs r J W)) (x1 : Int32) (x2 : Int64) (x4 : Int32) (x5 : Int32) (x6 : Int32) (x7 : Int32) (I : (Nat → Nat → Int32)) (r : (Nat → Nat → Int32)) (h : bd_85_4 c999 c4 x1 x2 x4 x5 x6 x7 I = some r) : tt (d + 4) me_85 bk_85_4 [some (.ref 84), some (.int x1), some (.long x2), none, some (.int x4), some (.int x5), some (.int x6), some (.int x7), none, none] [] (cw κ cs I J W) (.inl none) (cw κ cs r J W) :=
  tt_I (L1 := (bk_85_4.drop 5)) (L2 := bk_85_6) 5 [some (.ref 84), some (.int x1), some (.long x2), none, some (.int x4), some (.int x5), some (.int x6), some (.int x7), none, none] [] (cw κ cs I J W) h (fun _ => rfl) (fun h =>
  tt_C (L1 := (bk_85_4.drop 10)) 5 [some (.ref 84), some (.int x1), some (.long x2), none, some (.int x4), some (.int x5), some (.int x6), some (.int x7), none, none] [] (cw κ cs I J W) h (fun _ => rfl) (fun _ e => m_86 (d := d) e) fun q2 h =>
  tt_C (L1 := (bk_85_4.drop 13)) 3 [some (.ref 84), some (.int x1), some (.long x2), none, some (.int x4), some (.int x5), some (.int x6), some (.int x7), some (.long q2.1), none] [] (cw κ cs q2.2 J W) h (fun _ => rfl) (fun _ e => m_210 (d := d + 3) e) fun q3 h =>
  tt_I (L1 := bk_85_5) (L2 := (bk_85_4.drop 19)) 6 [some (.ref 84), some (.int x1), some (.long x2), none, some (.int x4), some (.int x5), some (.int x6), some (.int x7), some (.long q2.1), none] [] (cw κ cs q2.2 J W) h (fun _ => rfl) (fun h =>
  tt_F [some (.ref 84), some (.int x1), some (.long x2), none, some (.int x4), some (.int x5), some (.int x6), some (.int x7), none, none] (And.intro rfl (And.intro rfl (And.intro rfl (And.intro rfl (And.intro rfl (And.intro rfl (And.intro rfl trivial))))))) (tl_85_5 c4 k4 x1 x2 x4 x5 x6 x7 q2.2 _ h)) (fun h =>
  tt_C (d := d + 3) (L1 := bk_85_5) 14 [some (.ref 84), some (.int x1), some (.long x2), none, some (.int x4), some (.int x5), some (.int x6), some (.int x7), some (.long q2.1), none] [] (cw κ cs q2.2 J W) h (fun _ => rfl) (fun _ e => k999 (x1 - (1 : Int32)) q2.1 (x4 + (x7 * x5)) (x5 * (6 : Int32)) q2.2 _ e) fun q4 h =>
  tt_F [some (.ref 84), some (.int x1), some (.long x2), none, some (.int x4), some (.int x5), some (.int x6), some (.int x7), none, none] (And.intro rfl (And.intro rfl (And.intro rfl (And.intro rfl (And.intro rfl (And.intro rfl (And.intro rfl trivial))))))) (tl_85_5 c4 k4 x1 x2 x4 x5 x6 x7 q4 _ h))) (fun h =>
  tt_R 1 (fun r => (.inl none)) (fun r => (cw κ cs r J W)) h (fun _ => rfl))
theorem tn_85_4 {d : Nat} {κ : KT} {cs : Nat × Nat} {J : Nat → Nat → Int64} {W : Nat} (c999 : Int32 → Int64 → Int32 → Int32 → (Nat → Nat → Int32) → Option (Nat → Nat → Int32)) (k999 : ∀ (x1 : Int32) (x2 : Int64) (x4 : Int32) (x5 : Int32) (I : (Nat → Nat → Int32)) (r : (Nat → Nat → Int32)), c999 x1 x2 x4 x5 I = some r → tm (d + 3) 85 [.ref 84, .int x1, .long x2, .int x4, .int x5] (cw κ cs I J W) (.inl none) (cw κ cs r J W)) : ∀ (n : Nat) (x1 : Int32) (x2 : Int64) (x4 : Int32) (x5 : Int32) (x6 : Int32) (x7 : Int32) (I : (Nat → Nat → Int32)) (r : (Nat → Nat → Int32)), fx (fun _ _ _ _ _ _ _ => none) (bd_85_4 c999) n x1 x2 x4 x5 x6 x7 I = some r → tt (d + 4) me_85 bk_85_4 [some (.ref 84), some (.int x1), some (.long x2), none, some (.int x4), some (.int x5), some (.int x6), some (.int x7), none, none] [] (cw κ cs I J W) (.inl none) (cw κ cs r J W)
  | 0 => fun _ _ _ _ _ _ _ _ h => nomatch h
  | n + 1 => fun x1 x2 x4 x5 x6 x7 I r h => tb_85_4 c999 k999 (fx _ (bd_85_4 c999) n) (tn_85_4 c999 k999 n) x1 x2 x4 x5 x6 x7 I r h
theorem tl_85_4 {d : Nat} {κ : KT} {cs : Nat × Nat} {J : Nat → Nat → Int64} {W : Nat} (c999 : Int32 → Int64 → Int32 → Int32 → (Nat → Nat → Int32) → Option (Nat → Nat → Int32)) (k999 : ∀ (x1 : Int32) (x2 : Int64) (x4 : Int32) (x5 : Int32) (I : (Nat → Nat → Int32)) (r : (Nat → Nat → Int32)), c999 x1 x2 x4 x5 I = some r → tm (d + 3) 85 [.ref 84, .int x1, .long x2, .int x4, .int x5] (cw κ cs I J W) (.inl none) (cw κ cs r J W)) (x1 : Int32) (x2 : Int64) (x4 : Int32) (x5 : Int32) (x6 : Int32) (x7 : Int32) (I : (Nat → Nat → Int32)) (r : (Nat → Nat → Int32)) (h : lb_85_4 c999 x1 x2 x4 x5 x6 x7 I = some r) : tt (d + 4) me_85 bk_85_4 [some (.ref 84), some (.int x1), some (.long x2), none, some (.int x4), some (.int x5), some (.int x6), some (.int x7), none, none] [] (cw κ cs I J W) (.inl none) (cw κ cs r J W) := tn_85_4 c999 k999 FU x1 x2 x4 x5 x6 x7 I r h
theorem tl_85_2 {d : Nat} {κ : KT} {cs : Nat × Nat} {J : Nat → Nat → Int64} {W : Nat} (s1 : Int32) (I : (Nat → Nat → Int32)) (r : (Nat → Nat → Int32)) (h : lb_85_2  s1 I = some r) : tt (d + 4) me_85 bk_85_2 [some (.ref 84), none, none, none, none, none, none, none, none, none] [.int s1, .ref 84] (cw κ cs I J W) (.inl none) (cw κ cs r J W) :=
  let I6 := up I 84 4 s1
  let I7 := up I6 84 3 ((I6 84 3) + (1 : Int32))
  tt_J (L1 := (bk_85_2.drop 7)) 6 [some (.ref 84), none, none, none, none, none, none, none, none, none] [] (cw κ cs I7 J W) (fun _ => rfl) (
  tt_R 1 (fun r => (.inl none)) (fun r => (cw κ cs r J W)) h (fun _ => rfl))
theorem mb_85 {d : Nat} {κ : KT} {cs : Nat × Nat} {J : Nat → Nat → Int64} {W : Nat} (c999 : Int32 → Int64 → Int32 → Int32 → (Nat → Nat → Int32) → Option (Nat → Nat → Int32)) (k999 : ∀ (x1 : Int32) (x2 : Int64) (x4 : Int32) (x5 : Int32) (I : (Nat → Nat → Int32)) (r : (Nat → Nat → Int32)), c999 x1 x2 x4 x5 I = some r → tm (d + 3) 85 [.ref 84, .int x1, .long x2, .int x4, .int x5] (cw κ cs I J W) (.inl none) (cw κ cs r J W)) (x1 : Int32) (x2 : Int64) (x4 : Int32) (x5 : Int32) (I : (Nat → Nat → Int32)) (r : (Nat → Nat → Int32)) (h : fb_85 c999 x1 x2 x4 x5 I = some r) : tm (d + 4) 85 [.ref 84, .int x1, .long x2, .int x4, .int x5] (cw κ cs I J W) (.inl none) (cw κ cs r J W) :=
  tm_of me_85 rfl (Nat.le_of_ble_eq_true rfl) (
  tt_I (L1 := (bk_85_0.drop 2)) (L2 := bk_85_3) 2 [some (.ref 84), some (.int x1), some (.long x2), none, some (.int x4), some (.int x5), none, none, none, none] [] (cw κ cs I J W) h (fun _ => rfl) (fun h =>
  tt_I (L1 := (bk_85_0.drop 6)) (L2 := bk_85_1) 4 [some (.ref 84), some (.int x1), some (.long x2), none, some (.int x4), some (.int x5), none, none, none, none] [.ref 84] (cw κ cs I J W) h (fun _ => rfl) (fun h =>
  tt_J (L1 := bk_85_2) 1 [some (.ref 84), some (.int x1), some (.long x2), none, some (.int x4), some (.int x5), none, none, none, none] [.int x4, .ref 84] (cw κ cs I J W) (fun _ => rfl) (tt_F [some (.ref 84), none, none, none, none, none, none, none, none, none] (And.intro rfl trivial) (tl_85_2  x4 I _ h))) (fun h =>
  tt_C (L1 := bk_85_2) 4 [some (.ref 84), some (.int x1), some (.long x2), none, some (.int x4), some (.int x5), none, none, none, none] [.ref 84] (cw κ cs I J W) h (fun _ => rfl) (fun _ e => m_213 (d := d + 3) e) fun q5 h =>
  tt_F [some (.ref 84), none, none, none, none, none, none, none, none, none] (And.intro rfl trivial) (tl_85_2  q5 I _ h))) (fun h =>
  tt_C (L1 := (bk_85_3.drop 5)) 5 [some (.ref 84), some (.int x1), some (.long x2), none, some (.int x4), some (.int x5), none, none, none, none] [] (cw κ cs I J W) h (fun _ => rfl) (fun _ e => m_123 (d := d + 3) e) fun q1 h =>
  tt_J (L1 := bk_85_4) 2 [some (.ref 84), some (.int x1), some (.long x2), none, some (.int x4), some (.int x5), some (.int q1), some (.int (0 : Int32)), none, none] [] (cw κ cs I J W) (fun _ => rfl) (tt_F [some (.ref 84), some (.int x1), some (.long x2), none, some (.int x4), some (.int x5), some (.int q1), some (.int (0 : Int32)), none, none] (And.intro rfl (And.intro rfl (And.intro rfl (And.intro rfl (And.intro rfl (And.intro rfl (And.intro rfl trivial))))))) (tl_85_4 c999 k999 x1 x2 x4 x5 q1 (0 : Int32) I _ h))))
def f_85 : Int32 → Int64 → Int32 → Int32 → (Nat → Nat → Int32) → Option (Nat → Nat → Int32) := fx (fun _ _ _ _ _ => none) fb_85 8
theorem mn_85 {d : Nat} {κ : KT} {cs : Nat × Nat} {J : Nat → Nat → Int64} {W : Nat} : ∀ (n : Nat) (x1 : Int32) (x2 : Int64) (x4 : Int32) (x5 : Int32) (I : (Nat → Nat → Int32)) (r : (Nat → Nat → Int32)), fx (fun _ _ _ _ _ => none) fb_85 n x1 x2 x4 x5 I = some r → tm (d + n + 3) 85 [.ref 84, .int x1, .long x2, .int x4, .int x5] (cw κ cs I J W) (.inl none) (cw κ cs r J W)
  | 0 => fun _ _ _ _ _ _ h => nomatch h
  | n + 1 => fun x1 x2 x4 x5 I r h => by
    have g := mb_85 (d := d + n) (κ := κ) (cs := cs) (J := J) (W := W) (fx _ fb_85 n) (mn_85 (d := d) (κ := κ) (cs := cs) (J := J) (W := W) n) x1 x2 x4 x5 I r h
    rwa [show d + n + 4 = d + (n + 1) + 3 by omega] at g
theorem m_85 {d : Nat} {κ : KT} {cs : Nat × Nat} {J : Nat → Nat → Int64} {W : Nat} {x1 : Int32} {x2 : Int64} {x4 : Int32} {x5 : Int32} {I : (Nat → Nat → Int32)} {r : (Nat → Nat → Int32)} (h : f_85 x1 x2 x4 x5 I = some r) : tm (d + 11) 85 [.ref 84, .int x1, .long x2, .int x4, .int x5] (cw κ cs I J W) (.inl none) (cw κ cs r J W) := by
  have g := mn_85 (d := d) (κ := κ) (cs := cs) (J := J) (W := W) 8 x1 x2 x4 x5 I r h
  rwa [Nat.add_assoc] at g
/- 82 -/
def f_82 (x1 : Int32) (x2 : Int32) (I : (Nat → Nat → Int32)) : Option (Int32 × (Nat → Nat → Int32)) :=
  (let I1 := up I 84 2 x2
  (let I2 := up I1 84 3 (0 : Int32)
  (let I3 := up I2 84 4 (0 : Int32)
  ((f_85 (x2 - (1 : Int32)) ((1 : Int64) <<< ((x1).toInt64 &&& 63)) (0 : Int32) (1 : Int32) I3).bind fun q4 => (some ((q4 84 3), q4))))))
theorem m_82 {d : Nat} {κ : KT} {cs : Nat × Nat} {J : Nat → Nat → Int64} {W : Nat} {x1 : Int32} {x2 : Int32} {I : (Nat → Nat → Int32)} {r : (Int32 × (Nat → Nat → Int32))} (h : f_82 x1 x2 I = some r) : tm (d + 12) 82 [.ref 84, .int x1, .int x2] (cw κ cs I J W) (.inl (some (.int r.1))) (cw κ cs r.2 J W) :=
  tm_of me_82 rfl (Nat.le_of_ble_eq_true rfl) (
  let I1 := up I 84 2 x2
  let I2 := up I1 84 3 (0 : Int32)
  tt_J (L1 := (bk_82_0.drop 6)) 5 [some (.ref 84), some (.int x1), some (.int x2)] [] (cw κ cs I2 J W) (fun _ => rfl) (
  let I3 := up I2 84 4 (0 : Int32)
  tt_C (L1 := (bk_82_0.drop 19)) 13 [some (.ref 84), some (.int x1), some (.int x2)] [] (cw κ cs I3 J W) (show ((f_85 (x2 - (1 : Int32)) ((1 : Int64) <<< ((x1).toInt64 &&& 63)) (0 : Int32) (1 : Int32) I3).bind fun q4 => (some ((q4 84 3), q4))) = some r from h) (fun _ => rfl) (fun _ e => m_85 (d := d) e) fun q4 h =>
  tt_R 3 (fun r => (.inl (some (.int r.1)))) (fun r => (cw κ cs r.2 J W)) h (fun _ => rfl)))
/- 83 -/
def f_83 (I : (Nat → Nat → Int32)) : Option (Nat → Nat → Int32) :=
  (let I1 := up I 84 5 (I 84 4)
  (let I2 := up I1 84 6 (I1 84 2)
  (some I2)))
theorem m_83 {d : Nat} {κ : KT} {cs : Nat × Nat} {J : Nat → Nat → Int64} {W : Nat} {I : (Nat → Nat → Int32)} {r : (Nat → Nat → Int32)} (h : f_83  I = some r) : tm d 83 [.ref 84] (cw κ cs I J W) (.inl none) (cw κ cs r J W) :=
  tm_of me_83 rfl (Nat.le_of_ble_eq_true rfl) (
  let I1 := up I 84 5 (I 84 4)
  let I2 := up I1 84 6 (I1 84 2)
  tt_J (L1 := (bk_83_0.drop 8)) 7 [some (.ref 84)] [] (cw κ cs I2 J W) (fun _ => rfl) (
  tt_R 1 (fun r => (.inl none)) (fun r => (cw κ cs r J W)) h (fun _ => rfl)))
/- 121 -/
def bd_121_1 (c1 : Int32 → Int32 → Int32 → Option Int32) (x1 : Int32) (x2 : Int32) (x3 : Int32) : Option Int32 :=
  (if x3 < x1 then (c1 x1 (x2 / (6 : Int32)) (x3 + (1 : Int32)) ) else (some (x2 - x2 / (6 : Int32) * (6 : Int32))))
def lb_121_1 : Int32 → Int32 → Int32 → Option Int32 := fx (fun _ _ _ => none) (bd_121_1 ) FU
def f_121 (x0 : Int32) (x1 : Int32) : Option Int32 :=
  (lb_121_1  x1 x0 (0 : Int32) )
theorem tb_121_1 {d : Nat} {κ : KT} {cs : Nat × Nat} {I : Nat → Nat → Int32} {J : Nat → Nat → Int64} {W : Nat} (c1 : Int32 → Int32 → Int32 → Option Int32) (k1 : ∀ (x1 : Int32) (x2 : Int32) (x3 : Int32) (r : Int32), c1 x1 x2 x3  = some r → tt d me_121 bk_121_1 [none, some (.int x1), some (.int x2), some (.int x3)] [] (cw κ cs I J W) (.inl (some (.int r))) (cw κ cs I J W)) (x1 : Int32) (x2 : Int32) (x3 : Int32) (r : Int32) (h : bd_121_1  c1 x1 x2 x3  = some r) : tt d me_121 bk_121_1 [none, some (.int x1), some (.int x2), some (.int x3)] [] (cw κ cs I J W) (.inl (some (.int r))) (cw κ cs I J W) :=
  tt_I (L1 := (bk_121_1.drop 3)) (L2 := bk_121_2) 3 [none, some (.int x1), some (.int x2), some (.int x3)] [] (cw κ cs I J W) h (fun _ => rfl) (fun h =>
  tt_J (L1 := bk_121_1) 5 [none, some (.int x1), some (.int (x2 / (6 : Int32))), some (.int (x3 + (1 : Int32)))] [] (cw κ cs I J W) (fun _ => rfl) (tt_F [none, some (.int x1), some (.int (x2 / (6 : Int32))), some (.int (x3 + (1 : Int32)))] (And.intro rfl (And.intro rfl (And.intro rfl trivial))) (k1 x1 (x2 / (6 : Int32)) (x3 + (1 : Int32))  _ h))) (fun h =>
  tt_R 4 (fun r => (.inl (some (.int r)))) (fun r => (cw κ cs I J W)) h (fun _ => rfl))
theorem tn_121_1 {d : Nat} {κ : KT} {cs : Nat × Nat} {I : Nat → Nat → Int32} {J : Nat → Nat → Int64} {W : Nat} : ∀ (n : Nat) (x1 : Int32) (x2 : Int32) (x3 : Int32) (r : Int32), fx (fun _ _ _ => none) (bd_121_1 ) n x1 x2 x3  = some r → tt d me_121 bk_121_1 [none, some (.int x1), some (.int x2), some (.int x3)] [] (cw κ cs I J W) (.inl (some (.int r))) (cw κ cs I J W)
  | 0 => fun _ _ _ _ h => nomatch h
  | n + 1 => fun x1 x2 x3  r h => tb_121_1  (fx _ (bd_121_1 ) n) (tn_121_1  n) x1 x2 x3  r h
theorem tl_121_1 {d : Nat} {κ : KT} {cs : Nat × Nat} {I : Nat → Nat → Int32} {J : Nat → Nat → Int64} {W : Nat} (x1 : Int32) (x2 : Int32) (x3 : Int32) (r : Int32) (h : lb_121_1  x1 x2 x3  = some r) : tt d me_121 bk_121_1 [none, some (.int x1), some (.int x2), some (.int x3)] [] (cw κ cs I J W) (.inl (some (.int r))) (cw κ cs I J W) := tn_121_1  FU x1 x2 x3  r h
theorem m_121 {d : Nat} {κ : KT} {cs : Nat × Nat} {I : Nat → Nat → Int32} {J : Nat → Nat → Int64} {W : Nat} {x0 : Int32} {x1 : Int32} {r : Int32} (h : f_121 x0 x1  = some r) : tm d 121 [.int x0, .int x1] (cw κ cs I J W) (.inl (some (.int r))) (cw κ cs I J W) :=
  tm_of me_121 rfl (Nat.le_of_ble_eq_true rfl) (
  tt_J (L1 := bk_121_1) 3 [some (.int x0), some (.int x1), some (.int x0), some (.int (0 : Int32))] [] (cw κ cs I J W) (fun _ => rfl) (tt_F [none, some (.int x1), some (.int x0), some (.int (0 : Int32))] (And.intro rfl (And.intro rfl (And.intro rfl trivial))) (tl_121_1  x1 x0 (0 : Int32)  _ h)))
/- 84 -/
def f_84 (x1 : Int32) (I : (Nat → Nat → Int32)) : Option Int32 :=
  ((f_121 (I 84 5) (((I 84 6) - (1 : Int32)) - x1) ).bind fun q1 => (some q1))
theorem m_84 {d : Nat} {κ : KT} {cs : Nat × Nat} {J : Nat → Nat → Int64} {W : Nat} {x1 : Int32} {I : (Nat → Nat → Int32)} {r : Int32} (h : f_84 x1 I = some r) : tm (d + 1) 84 [.ref 84, .int x1] (cw κ cs I J W) (.inl (some (.int r))) (cw κ cs I J W) :=
  tm_of me_84 rfl (Nat.le_of_ble_eq_true rfl) (
  tt_C (L1 := (bk_84_0.drop 9)) 9 [some (.ref 84), some (.int x1)] [] (cw κ cs I J W) h (fun _ => rfl) (fun _ e => m_121 (d := d) e) fun q1 h =>
  tt_R 1 (fun r => (.inl (some (.int r)))) (fun r => (cw κ cs I J W)) h (fun _ => rfl))
/- 88 -/
def f_88 (x1 : Int32) (x2 : Int32) (x3 : Int32) (x4 : Int32) (x5 : Int32) (I : (Nat → Nat → Int32)) : Option (Int32 × (Nat → Nat → Int32)) :=
  (if (500 : Int32) < ((I 60 1) + (20 : Int32)) then (some (((-1) : Int32), I)) else ((f_70 x1 I).bind fun q1 => ((f_70 x2 q1).bind fun q2 => ((f_70 x3 q2).bind fun q3 => ((f_70 x4 q3).bind fun q4 => ((f_70 x5 q4).bind fun q5 => (some ((q5 60 1), q5))))))))
theorem m_88 {d : Nat} {κ : KT} {cs : Nat × Nat} {J : Nat → Nat → Int64} {W : Nat} {x1 : Int32} {x2 : Int32} {x3 : Int32} {x4 : Int32} {x5 : Int32} {I : (Nat → Nat → Int32)} {r : (Int32 × (Nat → Nat → Int32))} (h : f_88 x1 x2 x3 x4 x5 I = some r) : tm (d + 1) 88 [.ref 58, .int x1, .int x2, .int x3, .int x4, .int x5] (cw κ cs I J W) (.inl (some (.int r.1))) (cw κ cs r.2 J W) :=
  tm_of me_88 rfl (Nat.le_of_ble_eq_true rfl) (
  tt_I (L1 := (bk_88_0.drop 7)) (L2 := bk_88_1) 7 [some (.ref 58), some (.int x1), some (.int x2), some (.int x3), some (.int x4), some (.int x5)] [] (cw κ cs I J W) h (fun _ => rfl) (fun h =>
  tt_R 2 (fun r => (.inl (some (.int r.1)))) (fun r => (cw κ cs r.2 J W)) h (fun _ => rfl)) (fun h =>
  tt_C (L1 := (bk_88_1.drop 4)) 4 [some (.ref 58), some (.int x1), some (.int x2), some (.int x3), some (.int x4), some (.int x5)] [] (cw κ cs I J W) h (fun _ => rfl) (fun _ e => m_70 (d := d) e) fun q1 h =>
  tt_C (L1 := (bk_88_1.drop 8)) 4 [some (.ref 58), some (.int x1), some (.int x2), some (.int x3), some (.int x4), some (.int x5)] [] (cw κ cs q1 J W) h (fun _ => rfl) (fun _ e => m_70 (d := d) e) fun q2 h =>
  tt_C (L1 := (bk_88_1.drop 12)) 4 [some (.ref 58), some (.int x1), some (.int x2), some (.int x3), some (.int x4), some (.int x5)] [] (cw κ cs q2 J W) h (fun _ => rfl) (fun _ e => m_70 (d := d) e) fun q3 h =>
  tt_C (L1 := (bk_88_1.drop 16)) 4 [some (.ref 58), some (.int x1), some (.int x2), some (.int x3), some (.int x4), some (.int x5)] [] (cw κ cs q3 J W) h (fun _ => rfl) (fun _ e => m_70 (d := d) e) fun q4 h =>
  tt_C (L1 := (bk_88_1.drop 20)) 4 [some (.ref 58), some (.int x1), some (.int x2), some (.int x3), some (.int x4), some (.int x5)] [] (cw κ cs q4 J W) h (fun _ => rfl) (fun _ e => m_70 (d := d) e) fun q5 h =>
  tt_R 4 (fun r => (.inl (some (.int r.1)))) (fun r => (cw κ cs r.2 J W)) h (fun _ => rfl)))
/- 50 -/
def bd_50_3 (c3 : Int32 → Int32 → (Nat → Nat → Int32) → Option (Nat → Nat → Int32)) (x1 : Int32) (x3 : Int32) (I : (Nat → Nat → Int32)) : Option (Nat → Nat → Int32) :=
  (if x3 < (I 79 4) then ((f_10 x3 I).bind fun q4 => (let I5 := putf I 83 480 ((x1 * (60 : Int32)) + x3) q4
  (c3 x1 (x3 + (1 : Int32)) I5))) else (some I))
def lb_50_3 : Int32 → Int32 → (Nat → Nat → Int32) → Option (Nat → Nat → Int32) := fx (fun _ _ _ => none) (bd_50_3 ) FU
def bd_50_1 (c1 : Int32 → Int32 → (Nat → Nat → Int32) → Option (Nat → Nat → Int32)) (x1 : Int32) (x3 : Int32) (I : (Nat → Nat → Int32)) : Option (Nat → Nat → Int32) :=
  (if x3 < (I 79 5) then ((f_53 x1 x3 I).bind fun q6 => ((f_7 x3 q6 I).bind fun q7 => (c1 x1 (x3 + (1 : Int32)) q7))) else (lb_50_3  x1 (0 : Int32) I))
def lb_50_1 : Int32 → Int32 → (Nat → Nat → Int32) → Option (Nat → Nat → Int32) := fx (fun _ _ _ => none) (bd_50_1 ) FU
def f_50 (x1 : Int32) (I : (Nat → Nat → Int32)) : Option (Nat → Nat → Int32) :=
  ((f_51 x1 I).bind fun q1 => ((f_52 x1 I).bind fun q2 => ((f_3 q1 q2 I).bind fun q3 => (lb_50_1  x1 (0 : Int32) q3))))
theorem tb_50_3 {d : Nat} {κ : KT} {cs : Nat × Nat} {J : Nat → Nat → Int64} {W : Nat} (c3 : Int32 → Int32 → (Nat → Nat → Int32) → Option (Nat → Nat → Int32)) (k3 : ∀ (x1 : Int32) (x3 : Int32) (I : (Nat → Nat → Int32)) (r : (Nat → Nat → Int32)), c3 x1 x3 I = some r → tt (d + 3) me_50 bk_50_3 [some (.ref 79), some (.int x1), some (.ref 74), some (.int x3)] [] (cw κ cs I J W) (.inl none) (cw κ cs r J W)) (x1 : Int32) (x3 : Int32) (I : (Nat → Nat → Int32)) (r : (Nat → Nat → Int32)) (h : bd_50_3  c3 x1 x3 I = some r) : tt (d + 3) me_50 bk_50_3 [some (.ref 79), some (.int x1), some (.ref 74), some (.int x3)] [] (cw κ cs I J W) (.inl none) (cw κ cs r J W) :=
  tt_I (L1 := (bk_50_3.drop 4)) (L2 := bk_50_4) 4 [some (.ref 79), some (.int x1), some (.ref 74), some (.int x3)] [] (cw κ cs I J W) h (fun _ => rfl) (fun h =>
  tt_C (L1 := (bk_50_3.drop 14)) 10 [some (.ref 79), some (.int x1), some (.ref 74), some (.int x3)] [.int ((x1 * (60 : Int32)) + x3), .ref 83] (cw κ cs I J W) h (fun _ => rfl) (fun _ e => m_10 (d := d) e) fun q4 h =>
  let I5 := putf I 83 480 ((x1 * (60 : Int32)) + x3) q4
  tt_K (L1 := (bk_50_3.drop 15)) 1 [some (.ref 79), some (.int x1), some (.ref 74), some (.int x3)] [] (cw κ cs I J W) (fun _ => rfl) (m_put 83 480 ((x1 * (60 : Int32)) + x3) q4 (Nat.le_of_ble_eq_true rfl) rfl (Nat.le_of_ble_eq_true rfl))
  (tt_J (L1 := bk_50_3) 1 [some (.ref 79), some (.int x1), some (.ref 74), some (.int (x3 + (1 : Int32)))] [] (cw κ cs I5 J W) (fun _ => rfl) (tt_F [some (.ref 79), some (.int x1), some (.ref 74), some (.int (x3 + (1 : Int32)))] (And.intro rfl (And.intro rfl (And.intro rfl (And.intro rfl trivial)))) (k3 x1 (x3 + (1 : Int32)) I5 _ h)))) (fun h =>
  tt_R 1 (fun r => (.inl none)) (fun r => (cw κ cs r J W)) h (fun _ => rfl))
theorem tn_50_3 {d : Nat} {κ : KT} {cs : Nat × Nat} {J : Nat → Nat → Int64} {W : Nat} : ∀ (n : Nat) (x1 : Int32) (x3 : Int32) (I : (Nat → Nat → Int32)) (r : (Nat → Nat → Int32)), fx (fun _ _ _ => none) (bd_50_3 ) n x1 x3 I = some r → tt (d + 3) me_50 bk_50_3 [some (.ref 79), some (.int x1), some (.ref 74), some (.int x3)] [] (cw κ cs I J W) (.inl none) (cw κ cs r J W)
  | 0 => fun _ _ _ _ h => nomatch h
  | n + 1 => fun x1 x3 I r h => tb_50_3  (fx _ (bd_50_3 ) n) (tn_50_3  n) x1 x3 I r h
theorem tl_50_3 {d : Nat} {κ : KT} {cs : Nat × Nat} {J : Nat → Nat → Int64} {W : Nat} (x1 : Int32) (x3 : Int32) (I : (Nat → Nat → Int32)) (r : (Nat → Nat → Int32)) (h : lb_50_3  x1 x3 I = some r) : tt (d + 3) me_50 bk_50_3 [some (.ref 79), some (.int x1), some (.ref 74), some (.int x3)] [] (cw κ cs I J W) (.inl none) (cw κ cs r J W) := tn_50_3  FU x1 x3 I r h
theorem tb_50_1 {d : Nat} {κ : KT} {cs : Nat × Nat} {J : Nat → Nat → Int64} {W : Nat} (c1 : Int32 → Int32 → (Nat → Nat → Int32) → Option (Nat → Nat → Int32)) (k1 : ∀ (x1 : Int32) (x3 : Int32) (I : (Nat → Nat → Int32)) (r : (Nat → Nat → Int32)), c1 x1 x3 I = some r → tt (d + 3) me_50 bk_50_1 [some (.ref 79), some (.int x1), some (.ref 74), some (.int x3)] [] (cw κ cs I J W) (.inl none) (cw κ cs r J W)) (x1 : Int32) (x3 : Int32) (I : (Nat → Nat → Int32)) (r : (Nat → Nat → Int32)) (h : bd_50_1  c1 x1 x3 I = some r) : tt (d + 3) me_50 bk_50_1 [some (.ref 79), some (.int x1), some (.ref 74), some (.int x3)] [] (cw κ cs I J W) (.inl none) (cw κ cs r J W) :=
  tt_I (L1 := (bk_50_1.drop 4)) (L2 := bk_50_2) 4 [some (.ref 79), some (.int x1), some (.ref 74), some (.int x3)] [] (cw κ cs I J W) h (fun _ => rfl) (fun h =>
  tt_C (L1 := (bk_50_1.drop 10)) 6 [some (.ref 79), some (.int x1), some (.ref 74), some (.int x3)] [.int x3, .ref 74] (cw κ cs I J W) h (fun _ => rfl) (fun _ e => m_53 (d := d) e) fun q6 h =>
  tt_C (L1 := (bk_50_1.drop 11)) 1 [some (.ref 79), some (.int x1), some (.ref 74), some (.int x3)] [] (cw κ cs I J W) h (fun _ => rfl) (fun _ e => m_7 (d := d) e) fun q7 h =>
  tt_J (L1 := bk_50_1) 1 [some (.ref 79), some (.int x1), some (.ref 74), some (.int (x3 + (1 : Int32)))] [] (cw κ cs q7 J W) (fun _ => rfl) (tt_F [some (.ref 79), some (.int x1), some (.ref 74), some (.int (x3 + (1 : Int32)))] (And.intro rfl (And.intro rfl (And.intro rfl (And.intro rfl trivial)))) (k1 x1 (x3 + (1 : Int32)) q7 _ h))) (fun h =>
  tt_J (L1 := bk_50_3) 1 [some (.ref 79), some (.int x1), some (.ref 74), some (.int (0 : Int32))] [] (cw κ cs I J W) (fun _ => rfl) (tt_F [some (.ref 79), some (.int x1), some (.ref 74), some (.int (0 : Int32))] (And.intro rfl (And.intro rfl (And.intro rfl (And.intro rfl trivial)))) (tl_50_3  x1 (0 : Int32) I _ h)))
theorem tn_50_1 {d : Nat} {κ : KT} {cs : Nat × Nat} {J : Nat → Nat → Int64} {W : Nat} : ∀ (n : Nat) (x1 : Int32) (x3 : Int32) (I : (Nat → Nat → Int32)) (r : (Nat → Nat → Int32)), fx (fun _ _ _ => none) (bd_50_1 ) n x1 x3 I = some r → tt (d + 3) me_50 bk_50_1 [some (.ref 79), some (.int x1), some (.ref 74), some (.int x3)] [] (cw κ cs I J W) (.inl none) (cw κ cs r J W)
  | 0 => fun _ _ _ _ h => nomatch h
  | n + 1 => fun x1 x3 I r h => tb_50_1  (fx _ (bd_50_1 ) n) (tn_50_1  n) x1 x3 I r h
theorem tl_50_1 {d : Nat} {κ : KT} {cs : Nat × Nat} {J : Nat → Nat → Int64} {W : Nat} (x1 : Int32) (x3 : Int32) (I : (Nat → Nat → Int32)) (r : (Nat → Nat → Int32)) (h : lb_50_1  x1 x3 I = some r) : tt (d + 3) me_50 bk_50_1 [some (.ref 79), some (.int x1), some (.ref 74), some (.int x3)] [] (cw κ cs I J W) (.inl none) (cw κ cs r J W) := tn_50_1  FU x1 x3 I r h
theorem m_50 {d : Nat} {κ : KT} {cs : Nat × Nat} {J : Nat → Nat → Int64} {W : Nat} {x1 : Int32} {I : (Nat → Nat → Int32)} {r : (Nat → Nat → Int32)} (h : f_50 x1 I = some r) : tm (d + 3) 50 [.ref 79, .int x1, .ref 74] (cw κ cs I J W) (.inl none) (cw κ cs r J W) :=
  tm_of me_50 rfl (Nat.le_of_ble_eq_true rfl) (
  tt_C (L1 := (bk_50_0.drop 4)) 4 [some (.ref 79), some (.int x1), some (.ref 74), none] [.ref 74] (cw κ cs I J W) h (fun _ => rfl) (fun _ e => m_51 (d := d) e) fun q1 h =>
  tt_C (L1 := (bk_50_0.drop 7)) 3 [some (.ref 79), some (.int x1), some (.ref 74), none] [.int q1, .ref 74] (cw κ cs I J W) h (fun _ => rfl) (fun _ e => m_52 (d := d) e) fun q2 h =>
  tt_C (L1 := (bk_50_0.drop 8)) 1 [some (.ref 79), some (.int x1), some (.ref 74), none] [] (cw κ cs I J W) h (fun _ => rfl) (fun _ e => m_3 (d := d + 2) e) fun q3 h =>
  tt_J (L1 := bk_50_1) 1 [some (.ref 79), some (.int x1), some (.ref 74), some (.int (0 : Int32))] [] (cw κ cs q3 J W) (fun _ => rfl) (tt_F [some (.ref 79), some (.int x1), some (.ref 74), some (.int (0 : Int32))] (And.intro rfl (And.intro rfl (And.intro rfl (And.intro rfl trivial)))) (tl_50_1  x1 (0 : Int32) q3 _ h)))
/- 48 -/
def bd_48_2 (c1 : Int32 → (Nat → Nat → Int32) → Option (Nat → Nat → Int32)) (c2 : Int32 → Int32 → (Nat → Nat → Int32) → Option (Nat → Nat → Int32)) (x4 : Int32) (x5 : Int32) (I : (Nat → Nat → Int32)) : Option (Nat → Nat → Int32) :=
  (if x5 < (I 79 5) then ((f_42 ((-5) : Int32) x5 I).bind fun q8 => ((f_9 (atf (q8 80) 8 x4) x5 q8).bind fun q9 => ((f_42 ((-6) : Int32) q9 q8).bind fun q10 => ((f_43 x4 q10).bind fun q11 => ((f_125 q11.1 (q11.2 79 5) ).bind fun q12 => (let I13 := putf q11.2 82 48 ((x4 * (6 : Int32)) + x5) q12
  (c2 x4 (x5 + (1 : Int32)) I13))))))) else (c1 (x4 + (1 : Int32)) I))
def lb_48_2 (c1 : Int32 → (Nat → Nat → Int32) → Option (Nat → Nat → Int32)) : Int32 → Int32 → (Nat → Nat → Int32) → Option (Nat → Nat → Int32) := fx (fun _ _ _ => none) (bd_48_2 c1) FU
def bd_48_1 (c1 : Int32 → (Nat → Nat → Int32) → Option (Nat → Nat → Int32)) (x4 : Int32) (I : (Nat → Nat → Int32)) : Option (Nat → Nat → Int32) :=
  (if x4 < (I 79 8) then ((f_42 ((-1) : Int32) x4 I).bind fun q7 => (lb_48_2 c1 x4 (0 : Int32) q7)) else (some I))
def lb_48_1 : Int32 → (Nat → Nat → Int32) → Option (Nat → Nat → Int32) := fx (fun _ _ => none) (bd_48_1 ) FU
def f_48 (I : (Nat → Nat → Int32)) : Option (Nat → Nat → Int32) :=
  (let I1 := up I 79 9 (I 79 8)
  (let I2 := cpyf I1 65 80 8
  (let I3 := cpyf I2 66 81 8
  ((f_42 ((-2) : Int32) (I3 79 7) I3).bind fun q4 => ((f_42 ((-3) : Int32) (q4 79 5) q4).bind fun q5 => ((f_42 ((-4) : Int32) (q5 79 4) q5).bind fun q6 => (lb_48_1  (0 : Int32) q6)))))))
theorem tb_48_2 {d : Nat} {κ : KT} {cs : Nat × Nat} {J : Nat → Nat → Int64} {W : Nat} (c1 : Int32 → (Nat → Nat → Int32) → Option (Nat → Nat → Int32)) (k1 : ∀ (x4 : Int32) (I : (Nat → Nat → Int32)) (r : (Nat → Nat → Int32)), c1 x4 I = some r → tt (d + 3) me_48 bk_48_1 [some (.ref 79), none, some (.ref 74), some (.ref 67), some (.int x4), none] [] (cw κ cs I J W) (.inl none) (cw κ cs r J W)) (c2 : Int32 → Int32 → (Nat → Nat → Int32) → Option (Nat → Nat → Int32)) (k2 : ∀ (x4 : Int32) (x5 : Int32) (I : (Nat → Nat → Int32)) (r : (Nat → Nat → Int32)), c2 x4 x5 I = some r → tt (d + 3) me_48 bk_48_2 [some (.ref 79), none, some (.ref 74), some (.ref 67), some (.int x4), some (.int x5)] [] (cw κ cs I J W) (.inl none) (cw κ cs r J W)) (x4 : Int32) (x5 : Int32) (I : (Nat → Nat → Int32)) (r : (Nat → Nat → Int32)) (h : bd_48_2 c1 c2 x4 x5 I = some r) : tt (d + 3) me_48 bk_48_2 [some (.ref 79), none, some (.ref 74), some (.ref 67), some (.int x4), some (.int x5)] [] (cw κ cs I J W) (.inl none) (cw κ cs r J W) :=
  tt_I (L1 := (bk_48_2.drop 4)) (L2 := bk_48_3) 4 [some (.ref 79), none, some (.ref 74), some (.ref 67), some (.int x4), some (.int x5)] [] (cw κ cs I J W) h (fun _ => rfl) (fun h =>
  tt_C (L1 := (bk_48_2.drop 8)) 4 [some (.ref 79), none, some (.ref 74), some (.ref 67), some (.int x4), some (.int x5)] [] (cw κ cs I J W) h (fun _ => rfl) (fun _ e => m_42 (d := d + 1) e) fun q8 h =>
  tt_K (L1 := (bk_48_2.drop 15)) 7 [some (.ref 79), none, some (.ref 74), some (.ref 67), some (.int x4), some (.int x5)] [.ref 74, .int ((-6) : Int32), .ref 67] (cw κ cs q8 J W) (fun _ => rfl) (m_at 80 8 x4 (Nat.le_of_ble_eq_true rfl) rfl)
  (tt_C (L1 := (bk_48_2.drop 17)) 2 [some (.ref 79), none, some (.ref 74), some (.ref 67), some (.int x4), some (.int x5)] [.int ((-6) : Int32), .ref 67] (cw κ cs q8 J W) h (fun _ => rfl) (fun _ e => m_9 (d := d + 1) e) fun q9 h =>
  tt_C (L1 := (bk_48_2.drop 18)) 1 [some (.ref 79), none, some (.ref 74), some (.ref 67), some (.int x4), some (.int x5)] [] (cw κ cs q8 J W) h (fun _ => rfl) (fun _ e => m_42 (d := d + 1) e) fun q10 h =>
  tt_C (L1 := (bk_48_2.drop 28)) 10 [some (.ref 79), none, some (.ref 74), some (.ref 67), some (.int x4), some (.int x5)] [.int ((x4 * (6 : Int32)) + x5), .ref 82] (cw κ cs q10 J W) h (fun _ => rfl) (fun _ e => m_43 (d := d) e) fun q11 h =>
  tt_C (L1 := (bk_48_2.drop 31)) 3 [some (.ref 79), none, some (.ref 74), some (.ref 67), some (.int x4), some (.int x5)] [.int ((x4 * (6 : Int32)) + x5), .ref 82] (cw κ cs q11.2 J W) h (fun _ => rfl) (fun _ e => m_125 (d := d + 1) e) fun q12 h =>
  let I13 := putf q11.2 82 48 ((x4 * (6 : Int32)) + x5) q12
  tt_K (L1 := (bk_48_2.drop 32)) 1 [some (.ref 79), none, some (.ref 74), some (.ref 67), some (.int x4), some (.int x5)] [] (cw κ cs q11.2 J W) (fun _ => rfl) (m_put 82 48 ((x4 * (6 : Int32)) + x5) q12 (Nat.le_of_ble_eq_true rfl) rfl (Nat.le_of_ble_eq_true rfl))
  (tt_J (L1 := bk_48_2) 1 [some (.ref 79), none, some (.ref 74), some (.ref 67), some (.int x4), some (.int (x5 + (1 : Int32)))] [] (cw κ cs I13 J W) (fun _ => rfl) (tt_F [some (.ref 79), none, some (.ref 74), some (.ref 67), some (.int x4), some (.int (x5 + (1 : Int32)))] (And.intro rfl (And.intro rfl (And.intro rfl (And.intro rfl (And.intro rfl trivial))))) (k2 x4 (x5 + (1 : Int32)) I13 _ h))))) (fun h =>
  tt_J (L1 := bk_48_1) 1 [some (.ref 79), none, some (.ref 74), some (.ref 67), some (.int (x4 + (1 : Int32))), some (.int x5)] [] (cw κ cs I J W) (fun _ => rfl) (tt_F [some (.ref 79), none, some (.ref 74), some (.ref 67), some (.int (x4 + (1 : Int32))), none] (And.intro rfl (And.intro rfl (And.intro rfl (And.intro rfl trivial)))) (k1 (x4 + (1 : Int32)) I _ h)))
theorem tn_48_2 {d : Nat} {κ : KT} {cs : Nat × Nat} {J : Nat → Nat → Int64} {W : Nat} (c1 : Int32 → (Nat → Nat → Int32) → Option (Nat → Nat → Int32)) (k1 : ∀ (x4 : Int32) (I : (Nat → Nat → Int32)) (r : (Nat → Nat → Int32)), c1 x4 I = some r → tt (d + 3) me_48 bk_48_1 [some (.ref 79), none, some (.ref 74), some (.ref 67), some (.int x4), none] [] (cw κ cs I J W) (.inl none) (cw κ cs r J W)) : ∀ (n : Nat) (x4 : Int32) (x5 : Int32) (I : (Nat → Nat → Int32)) (r : (Nat → Nat → Int32)), fx (fun _ _ _ => none) (bd_48_2 c1) n x4 x5 I = some r → tt (d + 3) me_48 bk_48_2 [some (.ref 79), none, some (.ref 74), some (.ref 67), some (.int x4), some (.int x5)] [] (cw κ cs I J W) (.inl none) (cw κ cs r J W)
  | 0 => fun _ _ _ _ h => nomatch h
  | n + 1 => fun x4 x5 I r h => tb_48_2 c1 k1 (fx _ (bd_48_2 c1) n) (tn_48_2 c1 k1 n) x4 x5 I r h
theorem tl_48_2 {d : Nat} {κ : KT} {cs : Nat × Nat} {J : Nat → Nat → Int64} {W : Nat} (c1 : Int32 → (Nat → Nat → Int32) → Option (Nat → Nat → Int32)) (k1 : ∀ (x4 : Int32) (I : (Nat → Nat → Int32)) (r : (Nat → Nat → Int32)), c1 x4 I = some r → tt (d + 3) me_48 bk_48_1 [some (.ref 79), none, some (.ref 74), some (.ref 67), some (.int x4), none] [] (cw κ cs I J W) (.inl none) (cw κ cs r J W)) (x4 : Int32) (x5 : Int32) (I : (Nat → Nat → Int32)) (r : (Nat → Nat → Int32)) (h : lb_48_2 c1 x4 x5 I = some r) : tt (d + 3) me_48 bk_48_2 [some (.ref 79), none, some (.ref 74), some (.ref 67), some (.int x4), some (.int x5)] [] (cw κ cs I J W) (.inl none) (cw κ cs r J W) := tn_48_2 c1 k1 FU x4 x5 I r h
theorem tb_48_1 {d : Nat} {κ : KT} {cs : Nat × Nat} {J : Nat → Nat → Int64} {W : Nat} (c1 : Int32 → (Nat → Nat → Int32) → Option (Nat → Nat → Int32)) (k1 : ∀ (x4 : Int32) (I : (Nat → Nat → Int32)) (r : (Nat → Nat → Int32)), c1 x4 I = some r → tt (d + 3) me_48 bk_48_1 [some (.ref 79), none, some (.ref 74), some (.ref 67), some (.int x4), none] [] (cw κ cs I J W) (.inl none) (cw κ cs r J W)) (x4 : Int32) (I : (Nat → Nat → Int32)) (r : (Nat → Nat → Int32)) (h : bd_48_1  c1 x4 I = some r) : tt (d + 3) me_48 bk_48_1 [some (.ref 79), none, some (.ref 74), some (.ref 67), some (.int x4), none] [] (cw κ cs I J W) (.inl none) (cw κ cs r J W) :=
  tt_I (L1 := (bk_48_1.drop 4)) (L2 := bk_48_4) 4 [some (.ref 79), none, some (.ref 74), some (.ref 67), some (.int x4), none] [] (cw κ cs I J W) h (fun _ => rfl) (fun h =>
  tt_C (L1 := (bk_48_1.drop 8)) 4 [some (.ref 79), none, some (.ref 74), some (.ref 67), some (.int x4), none] [] (cw κ cs I J W) h (fun _ => rfl) (fun _ e => m_42 (d := d + 1) e) fun q7 h =>
  tt_J (L1 := bk_48_2) 1 [some (.ref 79), none, some (.ref 74), some (.ref 67), some (.int x4), some (.int (0 : Int32))] [] (cw κ cs q7 J W) (fun _ => rfl) (tt_F [some (.ref 79), none, some (.ref 74), some (.ref 67), some (.int x4), some (.int (0 : Int32))] (And.intro rfl (And.intro rfl (And.intro rfl (And.intro rfl (And.intro rfl trivial))))) (tl_48_2 c1 k1 x4 (0 : Int32) q7 _ h))) (fun h =>
  tt_R 1 (fun r => (.inl none)) (fun r => (cw κ cs r J W)) h (fun _ => rfl))
theorem tn_48_1 {d : Nat} {κ : KT} {cs : Nat × Nat} {J : Nat → Nat → Int64} {W : Nat} : ∀ (n : Nat) (x4 : Int32) (I : (Nat → Nat → Int32)) (r : (Nat → Nat → Int32)), fx (fun _ _ => none) (bd_48_1 ) n x4 I = some r → tt (d + 3) me_48 bk_48_1 [some (.ref 79), none, some (.ref 74), some (.ref 67), some (.int x4), none] [] (cw κ cs I J W) (.inl none) (cw κ cs r J W)
  | 0 => fun _ _ _ h => nomatch h
  | n + 1 => fun x4 I r h => tb_48_1  (fx _ (bd_48_1 ) n) (tn_48_1  n) x4 I r h
theorem tl_48_1 {d : Nat} {κ : KT} {cs : Nat × Nat} {J : Nat → Nat → Int64} {W : Nat} (x4 : Int32) (I : (Nat → Nat → Int32)) (r : (Nat → Nat → Int32)) (h : lb_48_1  x4 I = some r) : tt (d + 3) me_48 bk_48_1 [some (.ref 79), none, some (.ref 74), some (.ref 67), some (.int x4), none] [] (cw κ cs I J W) (.inl none) (cw κ cs r J W) := tn_48_1  FU x4 I r h
theorem m_48 {d : Nat} {κ : KT} {cs : Nat × Nat} {J : Nat → Nat → Int64} {W : Nat} {I : (Nat → Nat → Int32)} {r : (Nat → Nat → Int32)} (h : f_48  I = some r) : tm (d + 3) 48 [.ref 79, .ref 62, .ref 74] (cw κ cs I J W) (.inl none) (cw κ cs r J W) :=
  tm_of me_48 rfl (Nat.le_of_ble_eq_true rfl) (
  let I1 := up I 79 9 (I 79 8)
  let I2 := cpyf I1 65 80 8
  tt_K (L1 := (bk_48_0.drop 9)) 9 [some (.ref 79), some (.ref 62), some (.ref 74), none, none, none] [] (cw κ cs I1 J W) (fun _ => rfl) (m_copy 65 8 80 8 (Nat.le_of_ble_eq_true rfl) (Nat.le_of_ble_eq_true rfl) rfl rfl (Nat.le_of_ble_eq_true rfl))
  (let I3 := cpyf I2 66 81 8
  tt_K (L1 := (bk_48_0.drop 14)) 5 [some (.ref 79), some (.ref 62), some (.ref 74), none, none, none] [] (cw κ cs I2 J W) (fun _ => rfl) (m_copy 66 8 81 8 (Nat.le_of_ble_eq_true rfl) (Nat.le_of_ble_eq_true rfl) rfl rfl (Nat.le_of_ble_eq_true rfl))
  (tt_C (L1 := (bk_48_0.drop 22)) 8 [some (.ref 79), some (.ref 62), some (.ref 74), some (.ref 67), none, none] [] (cw κ cs I3 J W) (show ((f_42 ((-2) : Int32) (I3 79 7) I3).bind fun q4 => ((f_42 ((-3) : Int32) (q4 79 5) q4).bind fun q5 => ((f_42 ((-4) : Int32) (q5 79 4) q5).bind fun q6 => (lb_48_1  (0 : Int32) q6)))) = some r from h) (fun _ => rfl) (fun _ e => m_42 (d := d + 1) e) fun q4 h =>
  tt_C (L1 := (bk_48_0.drop 27)) 5 [some (.ref 79), some (.ref 62), some (.ref 74), some (.ref 67), none, none] [] (cw κ cs q4 J W) h (fun _ => rfl) (fun _ e => m_42 (d := d + 1) e) fun q5 h =>
  tt_C (L1 := (bk_48_0.drop 32)) 5 [some (.ref 79), some (.ref 62), some (.ref 74), some (.ref 67), none, none] [] (cw κ cs q5 J W) h (fun _ => rfl) (fun _ e => m_42 (d := d + 1) e) fun q6 h =>
  tt_J (L1 := bk_48_1) 1 [some (.ref 79), some (.ref 62), some (.ref 74), some (.ref 67), some (.int (0 : Int32)), none] [] (cw κ cs q6 J W) (fun _ => rfl) (tt_F [some (.ref 79), none, some (.ref 74), some (.ref 67), some (.int (0 : Int32)), none] (And.intro rfl (And.intro rfl (And.intro rfl (And.intro rfl trivial)))) (tl_48_1  (0 : Int32) q6 _ h)))))
/- 47 -/
def bd_47_3 (c3 : Int32 → (Nat → Nat → Int32) → Option (Nat → Nat → Int32)) (x3 : Int32) (I : (Nat → Nat → Int32)) : Option (Nat → Nat → Int32) :=
  (if x3 < (I 79 9) then ((f_50 x3 I).bind fun q8 => (c3 (x3 + (1 : Int32)) q8)) else (some I))
def lb_47_3 : Int32 → (Nat → Nat → Int32) → Option (Nat → Nat → Int32) := fx (fun _ _ => none) (bd_47_3 ) FU
def lb_47_2 (I : (Nat → Nat → Int32)) : Option (Nat → Nat → Int32) :=
  (lb_47_3  (0 : Int32) I)
def f_47 (I : (Nat → Nat → Int32)) : Option (Nat → Nat → Int32) :=
  (let I1 := up I 79 4 (atf (I 63) 4 (0 : Int32))
  (let I2 := up I1 79 5 (atf (I1 63) 4 (1 : Int32))
  (let I3 := up I2 79 6 (atf (I2 63) 4 (2 : Int32))
  (let I4 := up I3 79 7 (atf (I3 63) 4 (3 : Int32))
  (let I5 := up I4 79 8 (I4 62 6)
  ((f_1 (I5 79 4) (I5 79 5) I5).bind fun q6 => (if 0 < (q6 79 8) then ((f_48  q6).bind fun q9 => (lb_47_2   q9)) else ((f_49  q6).bind fun q7 => (lb_47_2   q7)))))))))
theorem tb_47_3 {d : Nat} {κ : KT} {cs : Nat × Nat} {J : Nat → Nat → Int64} {W : Nat} (c3 : Int32 → (Nat → Nat → Int32) → Option (Nat → Nat → Int32)) (k3 : ∀ (x3 : Int32) (I : (Nat → Nat → Int32)) (r : (Nat → Nat → Int32)), c3 x3 I = some r → tt (d + 4) me_47 bk_47_3 [some (.ref 79), none, some (.ref 74), some (.int x3)] [] (cw κ cs I J W) (.inl none) (cw κ cs r J W)) (x3 : Int32) (I : (Nat → Nat → Int32)) (r : (Nat → Nat → Int32)) (h : bd_47_3  c3 x3 I = some r) : tt (d + 4) me_47 bk_47_3 [some (.ref 79), none, some (.ref 74), some (.int x3)] [] (cw κ cs I J W) (.inl none) (cw κ cs r J W) :=
  tt_I (L1 := (bk_47_3.drop 4)) (L2 := bk_47_4) 4 [some (.ref 79), none, some (.ref 74), some (.int x3)] [] (cw κ cs I J W) h (fun _ => rfl) (fun h =>
  tt_C (L1 := (bk_47_3.drop 8)) 4 [some (.ref 79), none, some (.ref 74), some (.int x3)] [] (cw κ cs I J W) h (fun _ => rfl) (fun _ e => m_50 (d := d) e) fun q8 h =>
  tt_J (L1 := bk_47_3) 1 [some (.ref 79), none, some (.ref 74), some (.int (x3 + (1 : Int32)))] [] (cw κ cs q8 J W) (fun _ => rfl) (tt_F [some (.ref 79), none, some (.ref 74), some (.int (x3 + (1 : Int32)))] (And.intro rfl (And.intro rfl (And.intro rfl trivial))) (k3 (x3 + (1 : Int32)) q8 _ h))) (fun h =>
  tt_R 1 (fun r => (.inl none)) (fun r => (cw κ cs r J W)) h (fun _ => rfl))
theorem tn_47_3 {d : Nat} {κ : KT} {cs : Nat × Nat} {J : Nat → Nat → Int64} {W : Nat} : ∀ (n : Nat) (x3 : Int32) (I : (Nat → Nat → Int32)) (r : (Nat → Nat → Int32)), fx (fun _ _ => none) (bd_47_3 ) n x3 I = some r → tt (d + 4) me_47 bk_47_3 [some (.ref 79), none, some (.ref 74), some (.int x3)] [] (cw κ cs I J W) (.inl none) (cw κ cs r J W)
  | 0 => fun _ _ _ h => nomatch h
  | n + 1 => fun x3 I r h => tb_47_3  (fx _ (bd_47_3 ) n) (tn_47_3  n) x3 I r h
theorem tl_47_3 {d : Nat} {κ : KT} {cs : Nat × Nat} {J : Nat → Nat → Int64} {W : Nat} (x3 : Int32) (I : (Nat → Nat → Int32)) (r : (Nat → Nat → Int32)) (h : lb_47_3  x3 I = some r) : tt (d + 4) me_47 bk_47_3 [some (.ref 79), none, some (.ref 74), some (.int x3)] [] (cw κ cs I J W) (.inl none) (cw κ cs r J W) := tn_47_3  FU x3 I r h
theorem tl_47_2 {d : Nat} {κ : KT} {cs : Nat × Nat} {J : Nat → Nat → Int64} {W : Nat} (I : (Nat → Nat → Int32)) (r : (Nat → Nat → Int32)) (h : lb_47_2   I = some r) : tt (d + 4) me_47 bk_47_2 [some (.ref 79), none, some (.ref 74), none] [] (cw κ cs I J W) (.inl none) (cw κ cs r J W) :=
  tt_J (L1 := bk_47_3) 1 [some (.ref 79), none, some (.ref 74), some (.int (0 : Int32))] [] (cw κ cs I J W) (fun _ => rfl) (tt_F [some (.ref 79), none, some (.ref 74), some (.int (0 : Int32))] (And.intro rfl (And.intro rfl (And.intro rfl trivial))) (tl_47_3  (0 : Int32) I _ h))
theorem m_47 {d : Nat} {κ : KT} {cs : Nat × Nat} {J : Nat → Nat → Int64} {W : Nat} {I : (Nat → Nat → Int32)} {r : (Nat → Nat → Int32)} (h : f_47  I = some r) : tm (d + 4) 47 [.ref 79, .ref 62, .ref 74] (cw κ cs I J W) (.inl none) (cw κ cs r J W) :=
  tm_of me_47 rfl (Nat.le_of_ble_eq_true rfl) (
  tt_K (L1 := (bk_47_0.drop 5)) 5 [some (.ref 79), some (.ref 62), some (.ref 74), none] [.ref 79] (cw κ cs I J W) (fun _ => rfl) (m_at 63 4 (0 : Int32) (Nat.le_of_ble_eq_true rfl) rfl)
  (let I1 := up I 79 4 (atf (I 63) 4 (0 : Int32))
  tt_K (L1 := (bk_47_0.drop 11)) 6 [some (.ref 79), some (.ref 62), some (.ref 74), none] [.ref 79] (cw κ cs I1 J W) (fun _ => rfl) (m_at 63 4 (1 : Int32) (Nat.le_of_ble_eq_true rfl) rfl)
  (let I2 := up I1 79 5 (atf (I1 63) 4 (1 : Int32))
  tt_K (L1 := (bk_47_0.drop 17)) 6 [some (.ref 79), some (.ref 62), some (.ref 74), none] [.ref 79] (cw κ cs I2 J W) (fun _ => rfl) (m_at 63 4 (2 : Int32) (Nat.le_of_ble_eq_true rfl) rfl)
  (let I3 := up I2 79 6 (atf (I2 63) 4 (2 : Int32))
  tt_K (L1 := (bk_47_0.drop 23)) 6 [some (.ref 79), some (.ref 62), some (.ref 74), none] [.ref 79] (cw κ cs I3 J W) (fun _ => rfl) (m_at 63 4 (3 : Int32) (Nat.le_of_ble_eq_true rfl) rfl)
  (let I4 := up I3 79 7 (atf (I3 63) 4 (3 : Int32))
  let I5 := up I4 79 8 (I4 62 6)
  tt_J (L1 := (bk_47_0.drop 28)) 4 [some (.ref 79), some (.ref 62), some (.ref 74), none] [] (cw κ cs I5 J W) (fun _ => rfl) (
  tt_C (L1 := (bk_47_0.drop 34)) 6 [some (.ref 79), some (.ref 62), some (.ref 74), none] [] (cw κ cs I5 J W) (show ((f_1 (I5 79 4) (I5 79 5) I5).bind fun q6 => (if 0 < (q6 79 8) then ((f_48  q6).bind fun q9 => (lb_47_2   q9)) else ((f_49  q6).bind fun q7 => (lb_47_2   q7)))) = some r from h) (fun _ => rfl) (fun _ e => m_1 (d := d) e) fun q6 h =>
  tt_I (L1 := (bk_47_0.drop 37)) (L2 := bk_47_1) 3 [some (.ref 79), some (.ref 62), some (.ref 74), none] [] (cw κ cs q6 J W) h (fun _ => rfl) (fun h =>
  tt_C (L1 := (bk_47_0.drop 41)) 4 [some (.ref 79), some (.ref 62), some (.ref 74), none] [] (cw κ cs q6 J W) h (fun _ => rfl) (fun _ e => m_48 (d := d) e) fun q9 h =>
  tt_J (L1 := bk_47_2) 0 [some (.ref 79), some (.ref 62), some (.ref 74), none] [] (cw κ cs q9 J W) (fun _ => rfl) (tt_F [some (.ref 79), none, some (.ref 74), none] (And.intro rfl (And.intro rfl trivial)) (tl_47_2   q9 _ h))) (fun h =>
  tt_C (L1 := bk_47_2) 2 [some (.ref 79), some (.ref 62), some (.ref 74), none] [] (cw κ cs q6 J W) h (fun _ => rfl) (fun _ e => m_49 (d := d + 2) e) fun q7 h =>
  tt_F [some (.ref 79), none, some (.ref 74), none] (And.intro rfl (And.intro rfl trivial)) (tl_47_2   q7 _ h))))))))
/- 114 -/
def f_114 (I : (Nat → Nat → Int32)) : Option (Nat → Nat → Int32) :=
  ((f_47  I).bind fun q1 => ((f_60  q1).bind fun q2 => (let I3 := up q2 84 6 (0 : Int32)
  (let I4 := up I3 58 9 (0 : Int32)
  (some I4)))))
theorem m_114 {d : Nat} {κ : KT} {cs : Nat × Nat} {J : Nat → Nat → Int64} {W : Nat} {I : (Nat → Nat → Int32)} {r : (Nat → Nat → Int32)} (h : f_114  I = some r) : tm (d + 5) 114 [.ref 58] (cw κ cs I J W) (.inl none) (cw κ cs r J W) :=
  tm_of me_114 rfl (Nat.le_of_ble_eq_true rfl) (
  tt_C (L1 := (bk_114_0.drop 7)) 7 [some (.ref 58)] [] (cw κ cs I J W) h (fun _ => rfl) (fun _ e => m_47 (d := d) e) fun q1 h =>
  tt_C (L1 := (bk_114_0.drop 10)) 3 [some (.ref 58)] [] (cw κ cs q1 J W) h (fun _ => rfl) (fun _ e => m_60 (d := d + 2) e) fun q2 h =>
  let I3 := up q2 84 6 (0 : Int32)
  let I4 := up I3 58 9 (0 : Int32)
  tt_J (L1 := (bk_114_0.drop 17)) 6 [some (.ref 58)] [] (cw κ cs I4 J W) (fun _ => rfl) (
  tt_R 1 (fun r => (.inl none)) (fun r => (cw κ cs r J W)) h (fun _ => rfl)))
/- 89 -/
def lb_89_1 (I : (Nat → Nat → Int32)) (W : Nat) : Option ((Int32 ⊕ Nat) × (Nat → Nat → Int32) × Nat) :=
  (some ((.inr 0), I, W))
def f_89 (x1 : Int32) (I : (Nat → Nat → Int32)) (W : Nat) : Option ((Int32 ⊕ Nat) × (Nat → Nat → Int32) × Nat) :=
  (if x1 < 0 then (lb_89_1   I W) else (if (I 60 1) < x1 then (lb_89_1   I W) else ((f_17 x1 I W).bind fun q1 => (let I2 := up q1.2.1 60 1 (0 : Int32)
  (let I3 := up I2 58 10 (I2 62 7)
  (if q1.1 = 0 then ((f_114  I3).bind fun q4 => (some ((.inl (0 : Int32)), q4, q1.2.2))) else (let I5 := up I3 58 11 ((I3 58 11) + (1 : Int32))
  (some ((.inl q1.1), I5, q1.2.2)))))))))
theorem tl_89_1 {d : Nat} {κ : KT} {cs : Nat × Nat} {J : Nat → Nat → Int64} (I : (Nat → Nat → Int32)) (W : Nat) (r : ((Int32 ⊕ Nat) × (Nat → Nat → Int32) × Nat)) (h : lb_89_1   I W = some r) : tt (d + 10) me_89 bk_89_1 [none, none, none] [] (cw κ cs I J W) (xi r.1) (cw κ (xc cs r.1) r.2.1 J r.2.2) :=
  tt_R 1 (fun r => (xi r.1)) (fun r => (cw κ (xc cs r.1) r.2.1 J r.2.2)) h (fun _ => rfl)
theorem m_89 {d : Nat} {κ : KT} {cs : Nat × Nat} {J : Nat → Nat → Int64} {x1 : Int32} {I : (Nat → Nat → Int32)} {W : Nat} {r : ((Int32 ⊕ Nat) × (Nat → Nat → Int32) × Nat)} (h : f_89 x1 I W = some r) : tm (d + 10) 89 [.ref 58, .int x1] (cw κ cs I J W) (xi r.1) (cw κ (xc cs r.1) r.2.1 J r.2.2) :=
  tm_of me_89 rfl (Nat.le_of_ble_eq_true rfl) (
  tt_I (L1 := bk_89_1) (L2 := (bk_89_0.drop 2)) 2 [some (.ref 58), some (.int x1), none] [] (cw κ cs I J W) h (fun _ => rfl) (fun h =>
  tt_F [none, none, none] trivial (tl_89_1   I W _ h)) (fun h =>
  tt_I (L1 := bk_89_1) (L2 := bk_89_2) 5 [some (.ref 58), some (.int x1), none] [] (cw κ cs I J W) h (fun _ => rfl) (fun h =>
  tt_F [none, none, none] trivial (tl_89_1   I W _ h)) (fun h =>
  tt_C (L1 := (bk_89_2.drop 4)) 4 [some (.ref 58), some (.int x1), none] [] (cw κ cs I J W) h (fun _ => rfl) (fun _ e => m_17 (d := d) e) fun q1 h =>
  let I2 := up q1.2.1 60 1 (0 : Int32)
  let I3 := up I2 58 10 (I2 62 7)
  tt_J (L1 := (bk_89_2.drop 14)) 9 [some (.ref 58), some (.int x1), some (.int q1.1)] [] (cw κ cs I3 J q1.2.2) (fun _ => rfl) (
  tt_I (L1 := bk_89_3) (L2 := (bk_89_2.drop 16)) 2 [some (.ref 58), some (.int x1), some (.int q1.1)] [] (cw κ cs I3 J q1.2.2) h (fun _ => rfl) (fun h =>
  tt_C (L1 := (bk_89_3.drop 2)) 2 [some (.ref 58), some (.int x1), some (.int q1.1)] [] (cw κ cs I3 J q1.2.2) h (fun _ => rfl) (fun _ e => m_114 (d := d + 4) e) fun q4 h =>
  tt_R 2 (fun r => (xi r.1)) (fun r => (cw κ (xc cs r.1) r.2.1 J r.2.2)) h (fun _ => rfl)) (fun h =>
  let I5 := up I3 58 11 ((I3 58 11) + (1 : Int32))
  tt_R 8 (fun r => (xi r.1)) (fun r => (cw κ (xc cs r.1) r.2.1 J r.2.2)) h (fun _ => rfl))))))
/- 90 -/
def f_90 (I : (Nat → Nat → Int32)) : Option Int32 :=
  (some (I 58 10))
theorem m_90 {d : Nat} {κ : KT} {cs : Nat × Nat} {J : Nat → Nat → Int64} {W : Nat} {I : (Nat → Nat → Int32)} {r : Int32} (h : f_90  I = some r) : tm d 90 [.ref 58] (cw κ cs I J W) (.inl (some (.int r))) (cw κ cs I J W) :=
  tm_of me_90 rfl (Nat.le_of_ble_eq_true rfl) (
  tt_R 3 (fun r => (.inl (some (.int r)))) (fun r => (cw κ cs I J W)) h (fun _ => rfl))
/- 66 -/
def lb_66_2 (c1 : Int64 → Int32 → (Nat → Nat → Int32) → Option Int64) (x2 : Int64) (x4 : Int32) (I : (Nat → Nat → Int32)) : Option Int64 :=
  (c1 x2 (x4 + (1 : Int32)) I)
def bd_66_1 (c1 : Int64 → Int32 → (Nat → Nat → Int32) → Option Int64) (x2 : Int64) (x4 : Int32) (I : (Nat → Nat → Int32)) : Option Int64 :=
  (if x4 < (I 79 4) then (if (I 79 6) < (atf (I 90) 60 x4) then (lb_66_2 c1 x2 x4 I) else (lb_66_2 c1 (x2 ||| ((1 : Int64) <<< ((x4).toInt64 &&& 63))) x4 I)) else (some x2))
def lb_66_1 : Int64 → Int32 → (Nat → Nat → Int32) → Option Int64 := fx (fun _ _ _ => none) (bd_66_1 ) FU
def f_66 (I : (Nat → Nat → Int32)) : Option Int64 :=
  (lb_66_1  (0 : Int64) (0 : Int32) I)
theorem tl_66_2 {d : Nat} {κ : KT} {cs : Nat × Nat} {J : Nat → Nat → Int64} {W : Nat} (c1 : Int64 → Int32 → (Nat → Nat → Int32) → Option Int64) (k1 : ∀ (x2 : Int64) (x4 : Int32) (I : (Nat → Nat → Int32)) (r : Int64), c1 x2 x4 I = some r → tt (d + 1) me_66 bk_66_1 [some (.ref 87), some (.ref 79), some (.long x2), none, some (.int x4)] [] (cw κ cs I J W) (.inl (some (.long r))) (cw κ cs I J W)) (x2 : Int64) (x4 : Int32) (I : (Nat → Nat → Int32)) (r : Int64) (h : lb_66_2 c1 x2 x4 I = some r) : tt (d + 1) me_66 bk_66_2 [some (.ref 87), some (.ref 79), some (.long x2), none, some (.int x4)] [] (cw κ cs I J W) (.inl (some (.long r))) (cw κ cs I J W) :=
  tt_J (L1 := bk_66_1) 1 [some (.ref 87), some (.ref 79), some (.long x2), none, some (.int (x4 + (1 : Int32)))] [] (cw κ cs I J W) (fun _ => rfl) (tt_F [some (.ref 87), some (.ref 79), some (.long x2), none, some (.int (x4 + (1 : Int32)))] (And.intro rfl (And.intro rfl (And.intro rfl (And.intro rfl trivial)))) (k1 x2 (x4 + (1 : Int32)) I _ h))
theorem tb_66_1 {d : Nat} {κ : KT} {cs : Nat × Nat} {J : Nat → Nat → Int64} {W : Nat} (c1 : Int64 → Int32 → (Nat → Nat → Int32) → Option Int64) (k1 : ∀ (x2 : Int64) (x4 : Int32) (I : (Nat → Nat → Int32)) (r : Int64), c1 x2 x4 I = some r → tt (d + 1) me_66 bk_66_1 [some (.ref 87), some (.ref 79), some (.long x2), none, some (.int x4)] [] (cw κ cs I J W) (.inl (some (.long r))) (cw κ cs I J W)) (x2 : Int64) (x4 : Int32) (I : (Nat → Nat → Int32)) (r : Int64) (h : bd_66_1  c1 x2 x4 I = some r) : tt (d + 1) me_66 bk_66_1 [some (.ref 87), some (.ref 79), some (.long x2), none, some (.int x4)] [] (cw κ cs I J W) (.inl (some (.long r))) (cw κ cs I J W) :=
  tt_I (L1 := (bk_66_1.drop 4)) (L2 := bk_66_3) 4 [some (.ref 87), some (.ref 79), some (.long x2), none, some (.int x4)] [] (cw κ cs I J W) h (fun _ => rfl) (fun h =>
  tt_K (L1 := (bk_66_1.drop 8)) 4 [some (.ref 87), some (.ref 79), some (.long x2), none, some (.int x4)] [] (cw κ cs I J W) (fun _ => rfl) (m_at 90 60 x4 (Nat.le_of_ble_eq_true rfl) rfl)
  (tt_I (L1 := bk_66_2) (L2 := (bk_66_1.drop 11)) 3 [some (.ref 87), some (.ref 79), some (.long x2), none, some (.int x4)] [] (cw κ cs I J W) h (fun _ => rfl) (fun h =>
  tt_F [some (.ref 87), some (.ref 79), some (.long x2), none, some (.int x4)] (And.intro rfl (And.intro rfl (And.intro rfl (And.intro rfl trivial)))) (tl_66_2 c1 k1 x2 x4 I _ h)) (fun h =>
  tt_J (L1 := bk_66_2) 5 [some (.ref 87), some (.ref 79), some (.long (x2 ||| ((1 : Int64) <<< ((x4).toInt64 &&& 63)))), none, some (.int x4)] [] (cw κ cs I J W) (fun _ => rfl) (tt_F [some (.ref 87), some (.ref 79), some (.long (x2 ||| ((1 : Int64) <<< ((x4).toInt64 &&& 63)))), none, some (.int x4)] (And.intro rfl (And.intro rfl (And.intro rfl (And.intro rfl trivial)))) (tl_66_2 c1 k1 (x2 ||| ((1 : Int64) <<< ((x4).toInt64 &&& 63))) x4 I _ h))))) (fun h =>
  tt_R 2 (fun r => (.inl (some (.long r)))) (fun r => (cw κ cs I J W)) h (fun _ => rfl))
theorem tn_66_1 {d : Nat} {κ : KT} {cs : Nat × Nat} {J : Nat → Nat → Int64} {W : Nat} : ∀ (n : Nat) (x2 : Int64) (x4 : Int32) (I : (Nat → Nat → Int32)) (r : Int64), fx (fun _ _ _ => none) (bd_66_1 ) n x2 x4 I = some r → tt (d + 1) me_66 bk_66_1 [some (.ref 87), some (.ref 79), some (.long x2), none, some (.int x4)] [] (cw κ cs I J W) (.inl (some (.long r))) (cw κ cs I J W)
  | 0 => fun _ _ _ _ h => nomatch h
  | n + 1 => fun x2 x4 I r h => tb_66_1  (fx _ (bd_66_1 ) n) (tn_66_1  n) x2 x4 I r h
theorem tl_66_1 {d : Nat} {κ : KT} {cs : Nat × Nat} {J : Nat → Nat → Int64} {W : Nat} (x2 : Int64) (x4 : Int32) (I : (Nat → Nat → Int32)) (r : Int64) (h : lb_66_1  x2 x4 I = some r) : tt (d + 1) me_66 bk_66_1 [some (.ref 87), some (.ref 79), some (.long x2), none, some (.int x4)] [] (cw κ cs I J W) (.inl (some (.long r))) (cw κ cs I J W) := tn_66_1  FU x2 x4 I r h
theorem m_66 {d : Nat} {κ : KT} {cs : Nat × Nat} {J : Nat → Nat → Int64} {W : Nat} {I : (Nat → Nat → Int32)} {r : Int64} (h : f_66  I = some r) : tm (d + 1) 66 [.ref 87, .ref 79] (cw κ cs I J W) (.inl (some (.long r))) (cw κ cs I J W) :=
  tm_of me_66 rfl (Nat.le_of_ble_eq_true rfl) (
  tt_J (L1 := bk_66_1) 3 [some (.ref 87), some (.ref 79), some (.long (0 : Int64)), none, some (.int (0 : Int32))] [] (cw κ cs I J W) (fun _ => rfl) (tt_F [some (.ref 87), some (.ref 79), some (.long (0 : Int64)), none, some (.int (0 : Int32))] (And.intro rfl (And.intro rfl (And.intro rfl (And.intro rfl trivial)))) (tl_66_1  (0 : Int64) (0 : Int32) I _ h)))
/- 91 -/
def f_91 (x1 : Int32) (I : (Nat → Nat → Int32)) : Option (Int32 ⊕ Nat) :=
  (if x1 = (0 : Int32) then (some (.inl (I 79 4))) else (if x1 = (1 : Int32) then (some (.inl (I 79 5))) else (if x1 = (2 : Int32) then (some (.inl (I 79 8))) else (if x1 = (3 : Int32) then (some (.inl (I 79 6))) else (if x1 = (4 : Int32) then (some (.inl (I 79 7))) else (if x1 = (5 : Int32) then (some (.inl (I 87 4))) else (if x1 = (6 : Int32) then ((f_66  I).bind fun q1 => ((f_210 q1 ).bind fun q2 => (some (.inl q2)))) else (if x1 = (7 : Int32) then (some (.inl (I 60 1))) else (if x1 = (8 : Int32) then (some (.inl (I 58 11))) else (if x1 = (9 : Int32) then (some (.inl (I 58 12))) else (some (.inr 1))))))))))))
theorem m_91 {d : Nat} {κ : KT} {cs : Nat × Nat} {J : Nat → Nat → Int64} {W : Nat} {x1 : Int32} {I : (Nat → Nat → Int32)} {r : (Int32 ⊕ Nat)} (h : f_91 x1 I = some r) : tm (d + 2) 91 [.ref 58, .int x1] (cw κ cs I J W) (xi r) (cw κ (xc cs r) I J W) :=
  tm_of me_91 rfl (Nat.le_of_ble_eq_true rfl) (
  tt_J (L1 := (bk_91_0.drop 1)) 0 [some (.ref 58), some (.int x1)] [.int x1] (cw κ cs I J W) (fun _ => rfl) (
  tt_T (L1 := bk_91_1) (0 : Int32) h (fun _ => rfl) (fun h =>
  tt_R 4 (fun r => (xi r)) (fun r => (cw κ (xc cs r) I J W)) h (fun _ => rfl)) (fun e0 h =>
  tt_T (L1 := bk_91_2) (1 : Int32) h (fun _ => rfl) (fun h =>
  tt_R 4 (fun r => (xi r)) (fun r => (cw κ (xc cs r) I J W)) h (fun _ => rfl)) (fun e1 h =>
  tt_T (L1 := bk_91_3) (2 : Int32) h (fun _ => rfl) (fun h =>
  tt_R 4 (fun r => (xi r)) (fun r => (cw κ (xc cs r) I J W)) h (fun _ => rfl)) (fun e2 h =>
  tt_T (L1 := bk_91_4) (3 : Int32) h (fun _ => rfl) (fun h =>
  tt_R 4 (fun r => (xi r)) (fun r => (cw κ (xc cs r) I J W)) h (fun _ => rfl)) (fun e3 h =>
  tt_T (L1 := bk_91_5) (4 : Int32) h (fun _ => rfl) (fun h =>
  tt_R 4 (fun r => (xi r)) (fun r => (cw κ (xc cs r) I J W)) h (fun _ => rfl)) (fun e4 h =>
  tt_T (L1 := bk_91_6) (5 : Int32) h (fun _ => rfl) (fun h =>
  tt_R 4 (fun r => (xi r)) (fun r => (cw κ (xc cs r) I J W)) h (fun _ => rfl)) (fun e5 h =>
  tt_T (L1 := bk_91_7) (6 : Int32) h (fun _ => rfl) (fun h =>
  tt_C (L1 := (bk_91_7.drop 5)) 5 [some (.ref 58), some (.int x1)] [] (cw κ cs I J W) h (fun _ => rfl) (fun _ e => m_66 (d := d) e) fun q1 h =>
  tt_C (L1 := (bk_91_7.drop 6)) 1 [some (.ref 58), some (.int x1)] [] (cw κ cs I J W) h (fun _ => rfl) (fun _ e => m_210 (d := d + 1) e) fun q2 h =>
  tt_R 1 (fun r => (xi r)) (fun r => (cw κ (xc cs r) I J W)) h (fun _ => rfl)) (fun e6 h =>
  tt_T (L1 := bk_91_8) (7 : Int32) h (fun _ => rfl) (fun h =>
  tt_R 4 (fun r => (xi r)) (fun r => (cw κ (xc cs r) I J W)) h (fun _ => rfl)) (fun e7 h =>
  tt_T (L1 := bk_91_9) (8 : Int32) h (fun _ => rfl) (fun h =>
  tt_R 3 (fun r => (xi r)) (fun r => (cw κ (xc cs r) I J W)) h (fun _ => rfl)) (fun e8 h =>
  tt_T (L1 := bk_91_10) (9 : Int32) h (fun _ => rfl) (fun h =>
  tt_R 3 (fun r => (xi r)) (fun r => (cw κ (xc cs r) I J W)) h (fun _ => rfl)) (fun e9 h =>
  tt_T0 (by have e0 := nev e0 (show ((0 : Int32)).toInt = 0 from rfl); have e1 := nev e1 (show ((1 : Int32)).toInt = 1 from rfl); have e2 := nev e2 (show ((2 : Int32)).toInt = 2 from rfl); have e3 := nev e3 (show ((3 : Int32)).toInt = 3 from rfl); have e4 := nev e4 (show ((4 : Int32)).toInt = 4 from rfl); have e5 := nev e5 (show ((5 : Int32)).toInt = 5 from rfl); have e6 := nev e6 (show ((6 : Int32)).toInt = 6 from rfl); have e7 := nev e7 (show ((7 : Int32)).toInt = 7 from rfl); have e8 := nev e8 (show ((8 : Int32)).toInt = 8 from rfl); have e9 := nev e9 (show ((9 : Int32)).toInt = 9 from rfl); omega) (
  tt_R 1 (fun r => (xi r)) (fun r => (cw κ (xc cs r) I J W)) h (fun _ => rfl))))))))))))))
/- 92 -/
def lb_92_1 (I : (Nat → Nat → Int32)) : Option (Int32 ⊕ Nat) :=
  (some (.inr 1))
def f_92 (x1 : Int32) (x2 : Int32) (x3 : Int32) (I : (Nat → Nat → Int32)) : Option (Int32 ⊕ Nat) :=
  (if x1 < 0 then (lb_92_1   I) else (if x1 < (I 79 8) then ((f_57 x2 I).bind fun q1 => (if q1 = 0 then (lb_92_1   I) else (if x3 = (0 : Int32) then ((f_51 x1 I).bind fun q2 => (some (.inl q2))) else (if x3 = (1 : Int32) then ((f_52 x1 I).bind fun q3 => (some (.inl q3))) else (if x3 = (2 : Int32) then ((f_53 x1 x2 I).bind fun q4 => (some (.inl q4))) else (some (.inr 1))))))) else (lb_92_1   I)))
theorem tl_92_1 {d : Nat} {κ : KT} {cs : Nat × Nat} {J : Nat → Nat → Int64} {W : Nat} (I : (Nat → Nat → Int32)) (r : (Int32 ⊕ Nat)) (h : lb_92_1   I = some r) : tt (d + 3) me_92 bk_92_1 [none, none, none, none] [] (cw κ cs I J W) (xi r) (cw κ (xc cs r) I J W) :=
  tt_R 1 (fun r => (xi r)) (fun r => (cw κ (xc cs r) I J W)) h (fun _ => rfl)
theorem m_92 {d : Nat} {κ : KT} {cs : Nat × Nat} {J : Nat → Nat → Int64} {W : Nat} {x1 : Int32} {x2 : Int32} {x3 : Int32} {I : (Nat → Nat → Int32)} {r : (Int32 ⊕ Nat)} (h : f_92 x1 x2 x3 I = some r) : tm (d + 3) 92 [.ref 58, .int x1, .int x2, .int x3] (cw κ cs I J W) (xi r) (cw κ (xc cs r) I J W) :=
  tm_of me_92 rfl (Nat.le_of_ble_eq_true rfl) (
  tt_I (L1 := bk_92_1) (L2 := (bk_92_0.drop 2)) 2 [some (.ref 58), some (.int x1), some (.int x2), some (.int x3)] [] (cw κ cs I J W) h (fun _ => rfl) (fun h =>
  tt_F [none, none, none, none] trivial (tl_92_1   I _ h)) (fun h =>
  tt_I (L1 := (bk_92_0.drop 7)) (L2 := bk_92_1) 5 [some (.ref 58), some (.int x1), some (.int x2), some (.int x3)] [] (cw κ cs I J W) h (fun _ => rfl) (fun h =>
  tt_C (L1 := (bk_92_0.drop 11)) 4 [some (.ref 58), some (.int x1), some (.int x2), some (.int x3)] [] (cw κ cs I J W) h (fun _ => rfl) (fun _ e => m_57 (d := d + 1) e) fun q1 h =>
  tt_I (L1 := bk_92_1) (L2 := bk_92_2) 1 [some (.ref 58), some (.int x1), some (.int x2), some (.int x3)] [] (cw κ cs I J W) h (fun _ => rfl) (fun h =>
  tt_F [none, none, none, none] trivial (tl_92_1   I _ h)) (fun h =>
  tt_J (L1 := (bk_92_2.drop 1)) 0 [some (.ref 58), some (.int x1), some (.int x2), some (.int x3)] [.int x3] (cw κ cs I J W) (fun _ => rfl) (
  tt_T (L1 := bk_92_3) (0 : Int32) h (fun _ => rfl) (fun h =>
  tt_C (L1 := (bk_92_3.drop 4)) 4 [some (.ref 58), some (.int x1), some (.int x2), some (.int x3)] [] (cw κ cs I J W) h (fun _ => rfl) (fun _ e => m_51 (d := d) e) fun q2 h =>
  tt_R 1 (fun r => (xi r)) (fun r => (cw κ (xc cs r) I J W)) h (fun _ => rfl)) (fun e0 h =>
  tt_T (L1 := bk_92_4) (1 : Int32) h (fun _ => rfl) (fun h =>
  tt_C (L1 := (bk_92_4.drop 4)) 4 [some (.ref 58), some (.int x1), some (.int x2), some (.int x3)] [] (cw κ cs I J W) h (fun _ => rfl) (fun _ e => m_52 (d := d) e) fun q3 h =>
  tt_R 1 (fun r => (xi r)) (fun r => (cw κ (xc cs r) I J W)) h (fun _ => rfl)) (fun e1 h =>
  tt_T (L1 := bk_92_5) (2 : Int32) h (fun _ => rfl) (fun h =>
  tt_C (L1 := (bk_92_5.drop 5)) 5 [some (.ref 58), some (.int x1), some (.int x2), some (.int x3)] [] (cw κ cs I J W) h (fun _ => rfl) (fun _ e => m_53 (d := d) e) fun q4 h =>
  tt_R 1 (fun r => (xi r)) (fun r => (cw κ (xc cs r) I J W)) h (fun _ => rfl)) (fun e2 h =>
  tt_T0 (by have e0 := nev e0 (show ((0 : Int32)).toInt = 0 from rfl); have e1 := nev e1 (show ((1 : Int32)).toInt = 1 from rfl); have e2 := nev e2 (show ((2 : Int32)).toInt = 2 from rfl); omega) (
  tt_R 1 (fun r => (xi r)) (fun r => (cw κ (xc cs r) I J W)) h (fun _ => rfl)))))))) (fun h =>
  tt_F [none, none, none, none] trivial (tl_92_1   I _ h))))
/- 93 -/
def lb_93_1 (I : (Nat → Nat → Int32)) : Option ((Int32 ⊕ Nat) × (Nat → Nat → Int32)) :=
  (some ((.inr 1), I))
def f_93 (x1 : Int32) (x2 : Int32) (x3 : Int32) (I : (Nat → Nat → Int32)) : Option ((Int32 ⊕ Nat) × (Nat → Nat → Int32)) :=
  ((f_56 x1 I).bind fun q1 => (if q1 = 0 then (lb_93_1   I) else (if x2 < 0 then (lb_93_1   I) else ((f_57 x3 I).bind fun q2 => (if q2 = 0 then (lb_93_1   I) else ((f_51 x2 I).bind fun q3 => ((f_52 x2 I).bind fun q4 => ((f_3 q3 q4 I).bind fun q5 => ((f_53 x2 x3 q5).bind fun q6 => ((f_4 q6 x3 x3 q5).bind fun q7 => ((f_10 x1 q7).bind fun q8 => (some ((.inl q8), q7)))))))))))))
theorem tl_93_1 {d : Nat} {κ : KT} {cs : Nat × Nat} {J : Nat → Nat → Int64} {W : Nat} (I : (Nat → Nat → Int32)) (r : ((Int32 ⊕ Nat) × (Nat → Nat → Int32))) (h : lb_93_1   I = some r) : tt (d + 4) me_93 bk_93_1 [none, none, none, none] [] (cw κ cs I J W) (xi r.1) (cw κ (xc cs r.1) r.2 J W) :=
  tt_R 1 (fun r => (xi r.1)) (fun r => (cw κ (xc cs r.1) r.2 J W)) h (fun _ => rfl)
theorem m_93 {d : Nat} {κ : KT} {cs : Nat × Nat} {J : Nat → Nat → Int64} {W : Nat} {x1 : Int32} {x2 : Int32} {x3 : Int32} {I : (Nat → Nat → Int32)} {r : ((Int32 ⊕ Nat) × (Nat → Nat → Int32))} (h : f_93 x1 x2 x3 I = some r) : tm (d + 4) 93 [.ref 58, .int x1, .int x2, .int x3] (cw κ cs I J W) (xi r.1) (cw κ (xc cs r.1) r.2 J W) :=
  tm_of me_93 rfl (Nat.le_of_ble_eq_true rfl) (
  tt_C (L1 := (bk_93_0.drop 4)) 4 [some (.ref 58), some (.int x1), some (.int x2), some (.int x3)] [] (cw κ cs I J W) h (fun _ => rfl) (fun _ e => m_56 (d := d + 2) e) fun q1 h =>
  tt_I (L1 := bk_93_1) (L2 := (bk_93_0.drop 5)) 1 [some (.ref 58), some (.int x1), some (.int x2), some (.int x3)] [] (cw κ cs I J W) h (fun _ => rfl) (fun h =>
  tt_F [none, none, none, none] trivial (tl_93_1   I _ h)) (fun h =>
  tt_I (L1 := bk_93_1) (L2 := (bk_93_0.drop 7)) 2 [some (.ref 58), some (.int x1), some (.int x2), some (.int x3)] [] (cw κ cs I J W) h (fun _ => rfl) (fun h =>
  tt_F [none, none, none, none] trivial (tl_93_1   I _ h)) (fun h =>
  tt_C (L1 := (bk_93_0.drop 11)) 4 [some (.ref 58), some (.int x1), some (.int x2), some (.int x3)] [] (cw κ cs I J W) h (fun _ => rfl) (fun _ e => m_57 (d := d + 2) e) fun q2 h =>
  tt_I (L1 := bk_93_1) (L2 := bk_93_2) 1 [some (.ref 58), some (.int x1), some (.int x2), some (.int x3)] [] (cw κ cs I J W) h (fun _ => rfl) (fun h =>
  tt_F [none, none, none, none] trivial (tl_93_1   I _ h)) (fun h =>
  tt_C (L1 := (bk_93_2.drop 6)) 6 [some (.ref 58), some (.int x1), some (.int x2), some (.int x3)] [.ref 74] (cw κ cs I J W) h (fun _ => rfl) (fun _ e => m_51 (d := d + 1) e) fun q3 h =>
  tt_C (L1 := (bk_93_2.drop 10)) 4 [some (.ref 58), some (.int x1), some (.int x2), some (.int x3)] [.int q3, .ref 74] (cw κ cs I J W) h (fun _ => rfl) (fun _ e => m_52 (d := d + 1) e) fun q4 h =>
  tt_C (L1 := (bk_93_2.drop 11)) 1 [some (.ref 58), some (.int x1), some (.int x2), some (.int x3)] [] (cw κ cs I J W) h (fun _ => rfl) (fun _ e => m_3 (d := d + 3) e) fun q5 h =>
  tt_C (L1 := (bk_93_2.drop 18)) 7 [some (.ref 58), some (.int x1), some (.int x2), some (.int x3)] [.ref 74] (cw κ cs q5 J W) h (fun _ => rfl) (fun _ e => m_53 (d := d + 1) e) fun q6 h =>
  tt_C (L1 := (bk_93_2.drop 21)) 3 [some (.ref 58), some (.int x1), some (.int x2), some (.int x3)] [] (cw κ cs q5 J W) h (fun _ => rfl) (fun _ e => m_4 (d := d) e) fun q7 h =>
  tt_C (L1 := (bk_93_2.drop 25)) 4 [some (.ref 58), some (.int x1), some (.int x2), some (.int x3)] [] (cw κ cs q7 J W) h (fun _ => rfl) (fun _ e => m_10 (d := d + 1) e) fun q8 h =>
  tt_R 1 (fun r => (xi r.1)) (fun r => (cw κ (xc cs r.1) r.2 J W)) h (fun _ => rfl)))))
/- 94 -/
def f_94 (x1 : Int32) (x2 : Int32) (I : (Nat → Nat → Int32)) : Option (Int32 ⊕ Nat) :=
  ((f_56 x1 I).bind fun q1 => (if q1 = 0 then (some (.inr 1)) else ((f_122 x2 (0 : Int32) (60 : Int32) ).bind fun q2 => (if q2 = 0 then (some (.inr 0)) else ((f_55 x1 x2 I).bind fun q3 => (some (.inl q3)))))))
theorem m_94 {d : Nat} {κ : KT} {cs : Nat × Nat} {J : Nat → Nat → Int64} {W : Nat} {x1 : Int32} {x2 : Int32} {I : (Nat → Nat → Int32)} {r : (Int32 ⊕ Nat)} (h : f_94 x1 x2 I = some r) : tm (d + 4) 94 [.ref 58, .int x1, .int x2] (cw κ cs I J W) (xi r) (cw κ (xc cs r) I J W) :=
  tm_of me_94 rfl (Nat.le_of_ble_eq_true rfl) (
  tt_C (L1 := (bk_94_0.drop 4)) 4 [some (.ref 58), some (.int x1), some (.int x2)] [] (cw κ cs I J W) h (fun _ => rfl) (fun _ e => m_56 (d := d + 2) e) fun q1 h =>
  tt_I (L1 := (bk_94_0.drop 5)) (L2 := bk_94_1) 1 [some (.ref 58), some (.int x1), some (.int x2)] [] (cw κ cs I J W) h (fun _ => rfl) (fun h =>
  tt_R 1 (fun r => (xi r)) (fun r => (cw κ (xc cs r) I J W)) h (fun _ => rfl)) (fun h =>
  tt_C (L1 := (bk_94_1.drop 4)) 4 [some (.ref 58), some (.int x1), some (.int x2)] [] (cw κ cs I J W) h (fun _ => rfl) (fun _ e => m_122 (d := d + 3) e) fun q2 h =>
  tt_I (L1 := (bk_94_1.drop 5)) (L2 := bk_94_2) 1 [some (.ref 58), some (.int x1), some (.int x2)] [] (cw κ cs I J W) h (fun _ => rfl) (fun h =>
  tt_R 1 (fun r => (xi r)) (fun r => (cw κ (xc cs r) I J W)) h (fun _ => rfl)) (fun h =>
  tt_C (L1 := (bk_94_2.drop 5)) 5 [some (.ref 58), some (.int x1), some (.int x2)] [] (cw κ cs I J W) h (fun _ => rfl) (fun _ e => m_55 (d := d) e) fun q3 h =>
  tt_R 1 (fun r => (xi r)) (fun r => (cw κ (xc cs r) I J W)) h (fun _ => rfl))))
/- 115 -/
def bd_115_1 (c1 : Int32 → (Nat → Nat → Int32) → Option (Nat → Nat → Int32)) (x1 : Int32) (I : (Nat → Nat → Int32)) : Option (Nat → Nat → Int32) :=
  (if x1 < (nI 60) then (if ex_in x1 60 then let I1 := up I 59 (x1).toNatClampNeg x1
  (c1 (x1 + (1 : Int32)) I1) else none) else (some I))
def lb_115_1 : Int32 → (Nat → Nat → Int32) → Option (Nat → Nat → Int32) := fx (fun _ _ => none) (bd_115_1 ) FU
def f_115 (I : (Nat → Nat → Int32)) : Option (Nat → Nat → Int32) :=
  (lb_115_1  (0 : Int32) I)
theorem tb_115_1 {d : Nat} {κ : KT} {cs : Nat × Nat} {J : Nat → Nat → Int64} {W : Nat} (c1 : Int32 → (Nat → Nat → Int32) → Option (Nat → Nat → Int32)) (k1 : ∀ (x1 : Int32) (I : (Nat → Nat → Int32)) (r : (Nat → Nat → Int32)), c1 x1 I = some r → tt d me_115 bk_115_1 [some (.ref 58), some (.int x1)] [] (cw κ cs I J W) (.inl none) (cw κ cs r J W)) (x1 : Int32) (I : (Nat → Nat → Int32)) (r : (Nat → Nat → Int32)) (h : bd_115_1  c1 x1 I = some r) : tt d me_115 bk_115_1 [some (.ref 58), some (.int x1)] [] (cw κ cs I J W) (.inl none) (cw κ cs r J W) :=
  tt_I (L1 := (bk_115_1.drop 5)) (L2 := bk_115_2) 5 [some (.ref 58), some (.int x1)] [] (cw κ cs I J W) h (fun _ => rfl) (fun h =>
  let I1 := up I 59 (x1).toNatClampNeg x1
  tt_J (L1 := (bk_115_1.drop 9)) 3 [some (.ref 58), some (.int x1)] [.int x1, .int x1, .ref 59] (cw κ cs I J W) (fun _ => rfl) (
  tt_Wi rfl (Nat.le_of_ble_eq_true rfl) h fun h =>
  tt_J (L1 := bk_115_1) 1 [some (.ref 58), some (.int (x1 + (1 : Int32)))] [] (cw κ cs I1 J W) (fun _ => rfl) (tt_F [some (.ref 58), some (.int (x1 + (1 : Int32)))] (And.intro rfl (And.intro rfl trivial)) (k1 (x1 + (1 : Int32)) I1 _ h)))) (fun h =>
  tt_R 1 (fun r => (.inl none)) (fun r => (cw κ cs r J W)) h (fun _ => rfl))
theorem tn_115_1 {d : Nat} {κ : KT} {cs : Nat × Nat} {J : Nat → Nat → Int64} {W : Nat} : ∀ (n : Nat) (x1 : Int32) (I : (Nat → Nat → Int32)) (r : (Nat → Nat → Int32)), fx (fun _ _ => none) (bd_115_1 ) n x1 I = some r → tt d me_115 bk_115_1 [some (.ref 58), some (.int x1)] [] (cw κ cs I J W) (.inl none) (cw κ cs r J W)
  | 0 => fun _ _ _ h => nomatch h
  | n + 1 => fun x1 I r h => tb_115_1  (fx _ (bd_115_1 ) n) (tn_115_1  n) x1 I r h
theorem tl_115_1 {d : Nat} {κ : KT} {cs : Nat × Nat} {J : Nat → Nat → Int64} {W : Nat} (x1 : Int32) (I : (Nat → Nat → Int32)) (r : (Nat → Nat → Int32)) (h : lb_115_1  x1 I = some r) : tt d me_115 bk_115_1 [some (.ref 58), some (.int x1)] [] (cw κ cs I J W) (.inl none) (cw κ cs r J W) := tn_115_1  FU x1 I r h
theorem m_115 {d : Nat} {κ : KT} {cs : Nat × Nat} {J : Nat → Nat → Int64} {W : Nat} {I : (Nat → Nat → Int32)} {r : (Nat → Nat → Int32)} (h : f_115  I = some r) : tm d 115 [.ref 58] (cw κ cs I J W) (.inl none) (cw κ cs r J W) :=
  tm_of me_115 rfl (Nat.le_of_ble_eq_true rfl) (
  tt_J (L1 := bk_115_1) 1 [some (.ref 58), some (.int (0 : Int32))] [] (cw κ cs I J W) (fun _ => rfl) (tt_F [some (.ref 58), some (.int (0 : Int32))] (And.intro rfl (And.intro rfl trivial)) (tl_115_1  (0 : Int32) I _ h)))
