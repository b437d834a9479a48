/-! functions, by wip/whole/sy.py -/
/- 162 -/
def lb_162_6 (I : (Nat → Nat → Int32)) (J : (Nat → Nat → Int64)) : Option (Int32 × (Nat → Nat → Int32) × (Nat → Nat → Int64)) :=
  ((f_145  I).bind fun q18 => (if q18 = 0 then (if ex_in (0 : Int32) 2 then (if ex_in (0 : Int32) 2 then let I31 := up I 103 ((0 : Int32)).toNatClampNeg ((I 103 ((0 : Int32)).toNatClampNeg) + (1 : Int32))
  (some ((I31 97 12), I31, J)) else none) else none) else (let I19 := up I 97 1 (I 97 23)
  (let I20 := up I19 97 2 (I19 97 24)
  (let I21 := up I20 97 3 (I20 97 25)
  (let I22 := up I21 97 4 (I21 97 26)
  (let I23 := up I22 97 5 (I22 97 27)
  ((f_134  I23).bind fun q24 => ((f_134_97_105_99  q24).bind fun q25 => ((f_134_97_106_100  q25).bind fun q26 => ((f_134_97_107_101  q26).bind fun q27 => ((f_163  q27).bind fun q28 => (let I29 := up q28 97 48 ((-1) : Int32)
  (let I30 := up I29 97 59 (0 : Int32)
  (some ((0 : Int32), I30, J))))))))))))))))
def lb_162_5 (x1 : Int32) (I : (Nat → Nat → Int32)) (J : (Nat → Nat → Int64)) : Option (Int32 × (Nat → Nat → Int32) × (Nat → Nat → Int64)) :=
  ((f_145  I).bind fun q17 => (if q17 = 0 then (lb_162_6   I J) else (if (I 97 23) < (I 97 24) then (let I32 := up I 97 18 x1
  ((f_144 (5 : Int32) I32).bind fun q33 => (lb_162_6   q33 J))) else (lb_162_6   I J))))
def bd_162_4 (c4 : Int32 → (Nat → Nat → Int32) → (Nat → Nat → Int64) → Option (Int32 × (Nat → Nat → Int32) × (Nat → Nat → Int64))) (x1 : Int32) (I : (Nat → Nat → Int32)) (J : (Nat → Nat → Int64)) : Option (Int32 × (Nat → Nat → Int32) × (Nat → Nat → Int64)) :=
  ((f_145  I).bind fun q16 => (if q16 = 0 then (lb_162_5  x1 I J) else (if (I 97 17) = 0 then (lb_162_5  x1 I J) else ((f_161  I J).bind fun q34 => (c4 x1 q34.1 q34.2)))))
def lb_162_4 : Int32 → (Nat → Nat → Int32) → (Nat → Nat → Int64) → Option (Int32 × (Nat → Nat → Int32) × (Nat → Nat → Int64)) := fx (fun _ _ _ => none) (bd_162_4 ) FU
def lb_162_2 (x1 : Int32) (s1 : Int32) (I : (Nat → Nat → Int32)) (J : (Nat → Nat → Int64)) : Option (Int32 × (Nat → Nat → Int32) × (Nat → Nat → Int64)) :=
  ((f_132 s1 (1 : Int32) I).bind fun q2 => (if q2.1 = 0 then (some ((0 : Int32), q2.2, J)) else (let I3 := up q2.2 97 11 (0 : Int32)
  (let I4 := up I3 97 13 ((-1) : Int32)
  (let I5 := up I4 97 12 (0 : Int32)
  (let I6 := up I5 97 15 x1
  (let I7 := up I6 97 16 (0 : Int32)
  (let I8 := up I7 97 23 (27 : Int32)
  (let I9 := up I8 97 24 (3 : Int32)
  (let I10 := up I9 97 25 (0 : Int32)
  (let I11 := up I10 97 26 (0 : Int32)
  (let I12 := up I11 97 27 (0 : Int32)
  (let I13 := up I12 97 28 (0 : Int32)
  (let I14 := up I13 97 29 (0 : Int32)
  ((f_140  I14 J).bind fun q15 => (lb_162_4  x1 q15.1 q15.2))))))))))))))))
def lb_162_1 (x1 : Int32) (I : (Nat → Nat → Int32)) (J : (Nat → Nat → Int64)) : Option (Int32 × (Nat → Nat → Int32) × (Nat → Nat → Int64)) :=
  (lb_162_2  x1 (0 : Int32) I J)
def f_162 (x1 : Int32) (I : (Nat → Nat → Int32)) (J : (Nat → Nat → Int64)) : Option (Int32 × (Nat → Nat → Int32) × (Nat → Nat → Int64)) :=
  (let I1 := up I 97 0 (0 : Int32)
  (if x1 < 0 then (lb_162_1  x1 I1 J) else (if (I1 97 11) < x1 then (lb_162_1  x1 I1 J) else (lb_162_2  x1 (1 : Int32) I1 J))))
theorem tl_162_6 {d : Nat} {κ : KT} {cs : Nat × Nat} {W : Nat} (I : (Nat → Nat → Int32)) (J : (Nat → Nat → Int64)) (r : (Int32 × (Nat → Nat → Int32) × (Nat → Nat → Int64))) (h : lb_162_6   I J = some r) : tt (d + 7) me_162 bk_162_6 [some (.ref 97), none] [] (cw (km κ) cs I J W) (.inl (some (.int r.1))) (cw (km κ) cs r.2.1 r.2.2 W) :=
  tt_C (L1 := (bk_162_6.drop 2)) 2 [some (.ref 97), none] [] (cw (km κ) cs I J W) h (fun _ => rfl) (fun _ e => m_145 (d := d + 6) e) fun q18 h =>
  tt_I (L1 := (bk_162_6.drop 3)) (L2 := bk_162_7) 1 [some (.ref 97), none] [] (cw (km κ) cs I J W) h (fun _ => rfl) (fun h =>
  tt_J (L1 := (bk_162_6.drop 7)) 3 [some (.ref 97), none] [.int (0 : Int32), .ref 103, .int (0 : Int32), .ref 103] (cw (km κ) cs I J W) (fun _ => rfl) (
  tt_Qi rfl h fun h =>
  let I31 := up I 103 ((0 : Int32)).toNatClampNeg ((I 103 ((0 : Int32)).toNatClampNeg) + (1 : Int32))
  tt_J (L1 := (bk_162_6.drop 10)) 1 [some (.ref 97), none] [.int ((I 103 ((0 : Int32)).toNatClampNeg) + (1 : Int32)), .int (0 : Int32), .ref 103] (cw (km κ) cs I J W) (fun _ => rfl) (
  tt_Wi rfl (Nat.le_of_ble_eq_true rfl) h fun h =>
  tt_R 3 (fun r => (.inl (some (.int r.1)))) (fun r => (cw (km κ) cs r.2.1 r.2.2 W)) h (fun _ => rfl)))) (fun h =>
  let I19 := up I 97 1 (I 97 23)
  let I20 := up I19 97 2 (I19 97 24)
  tt_J (L1 := (bk_162_7.drop 8)) 7 [some (.ref 97), none] [] (cw (km κ) cs I20 J W) (fun _ => rfl) (
  let I21 := up I20 97 3 (I20 97 25)
  let I22 := up I21 97 4 (I21 97 26)
  tt_J (L1 := (bk_162_7.drop 16)) 7 [some (.ref 97), none] [] (cw (km κ) cs I22 J W) (fun _ => rfl) (
  let I23 := up I22 97 5 (I22 97 27)
  tt_C (L1 := (bk_162_7.drop 26)) 10 [some (.ref 97), none] [] (cw (km κ) cs I23 J W) h (fun _ => rfl) (fun _ e => m_134 (d := d + 6) e) fun q24 h =>
  tt_C (L1 := (bk_162_7.drop 32)) 6 [some (.ref 97), none] [] (cw (km κ) cs q24 J W) h (fun _ => rfl) (fun _ e => m_134_97_105_99 (d := d + 6) e) fun q25 h =>
  tt_C (L1 := (bk_162_7.drop 38)) 6 [some (.ref 97), none] [] (cw (km κ) cs q25 J W) h (fun _ => rfl) (fun _ e => m_134_97_106_100 (d := d + 6) e) fun q26 h =>
  tt_C (L1 := (bk_162_7.drop 44)) 6 [some (.ref 97), none] [] (cw (km κ) cs q26 J W) h (fun _ => rfl) (fun _ e => m_134_97_107_101 (d := d + 6) e) fun q27 h =>
  tt_C (L1 := (bk_162_7.drop 46)) 2 [some (.ref 97), none] [] (cw (km κ) cs q27 J W) h (fun _ => rfl) (fun _ e => m_163 (d := d + 6) e) fun q28 h =>
  let I29 := up q28 97 48 ((-1) : Int32)
  let I30 := up I29 97 59 (0 : Int32)
  tt_J (L1 := (bk_162_7.drop 52)) 5 [some (.ref 97), none] [] (cw (km κ) cs I30 J W) (fun _ => rfl) (
  tt_R 2 (fun r => (.inl (some (.int r.1)))) (fun r => (cw (km κ) cs r.2.1 r.2.2 W)) h (fun _ => rfl)))))
theorem tl_162_5 {d : Nat} {κ : KT} {cs : Nat × Nat} {W : Nat} (x1 : Int32) (I : (Nat → Nat → Int32)) (J : (Nat → Nat → Int64)) (r : (Int32 × (Nat → Nat → Int32) × (Nat → Nat → Int64))) (h : lb_162_5  x1 I J = some r) : tt (d + 7) me_162 bk_162_5 [some (.ref 97), some (.int x1)] [] (cw (km κ) cs I J W) (.inl (some (.int r.1))) (cw (km κ) cs r.2.1 r.2.2 W) :=
  tt_C (L1 := (bk_162_5.drop 2)) 2 [some (.ref 97), some (.int x1)] [] (cw (km κ) cs I J W) h (fun _ => rfl) (fun _ e => m_145 (d := d + 6) e) fun q17 h =>
  tt_I (L1 := bk_162_6) (L2 := (bk_162_5.drop 3)) 1 [some (.ref 97), some (.int x1)] [] (cw (km κ) cs I J W) h (fun _ => rfl) (fun h =>
  tt_F [some (.ref 97), none] (And.intro rfl trivial) (tl_162_6   I J _ h)) (fun h =>
  tt_I (L1 := (bk_162_5.drop 8)) (L2 := bk_162_6) 5 [some (.ref 97), some (.int x1)] [] (cw (km κ) cs I J W) h (fun _ => rfl) (fun h =>
  let I32 := up I 97 18 x1
  tt_C (L1 := bk_162_6) 6 [some (.ref 97), some (.int x1)] [] (cw (km κ) cs I32 J W) h (fun _ => rfl) (fun _ e => m_144 (d := d + 6) e) fun q33 h =>
  tt_F [some (.ref 97), none] (And.intro rfl trivial) (tl_162_6   q33 J _ h)) (fun h =>
  tt_F [some (.ref 97), none] (And.intro rfl trivial) (tl_162_6   I J _ h)))
theorem tb_162_4 {d : Nat} {κ : KT} {cs : Nat × Nat} {W : Nat} (c4 : Int32 → (Nat → Nat → Int32) → (Nat → Nat → Int64) → Option (Int32 × (Nat → Nat → Int32) × (Nat → Nat → Int64))) (k4 : ∀ (x1 : Int32) (I : (Nat → Nat → Int32)) (J : (Nat → Nat → Int64)) (r : (Int32 × (Nat → Nat → Int32) × (Nat → Nat → Int64))), c4 x1 I J = some r → tt (d + 7) me_162 bk_162_4 [some (.ref 97), some (.int x1)] [] (cw (km κ) cs I J W) (.inl (some (.int r.1))) (cw (km κ) cs r.2.1 r.2.2 W)) (x1 : Int32) (I : (Nat → Nat → Int32)) (J : (Nat → Nat → Int64)) (r : (Int32 × (Nat → Nat → Int32) × (Nat → Nat → Int64))) (h : bd_162_4  c4 x1 I J = some r) : tt (d + 7) me_162 bk_162_4 [some (.ref 97), some (.int x1)] [] (cw (km κ) cs I J W) (.inl (some (.int r.1))) (cw (km κ) cs r.2.1 r.2.2 W) :=
  tt_C (L1 := (bk_162_4.drop 2)) 2 [some (.ref 97), some (.int x1)] [] (cw (km κ) cs I J W) h (fun _ => rfl) (fun _ e => m_145 (d := d + 6) e) fun q16 h =>
  tt_I (L1 := bk_162_5) (L2 := (bk_162_4.drop 3)) 1 [some (.ref 97), some (.int x1)] [] (cw (km κ) cs I J W) h (fun _ => rfl) (fun h =>
  tt_F [some (.ref 97), some (.int x1)] (And.intro rfl (And.intro rfl trivial)) (tl_162_5  x1 I J _ h)) (fun h =>
  tt_I (L1 := bk_162_5) (L2 := (bk_162_4.drop 6)) 3 [some (.ref 97), some (.int x1)] [] (cw (km κ) cs I J W) h (fun _ => rfl) (fun h =>
  tt_F [some (.ref 97), some (.int x1)] (And.intro rfl (And.intro rfl trivial)) (tl_162_5  x1 I J _ h)) (fun h =>
  tt_C (L1 := (bk_162_4.drop 8)) 2 [some (.ref 97), some (.int x1)] [] (cw (km κ) cs I J W) h (fun _ => rfl) (fun _ e => m_161 (d := d) e) fun q34 h =>
  tt_J (L1 := bk_162_4) 0 [some (.ref 97), some (.int x1)] [] (cw (km κ) cs q34.1 q34.2 W) (fun _ => rfl) (tt_F [some (.ref 97), some (.int x1)] (And.intro rfl (And.intro rfl trivial)) (k4 x1 q34.1 q34.2 _ h))))
theorem tn_162_4 {d : Nat} {κ : KT} {cs : Nat × Nat} {W : Nat} : ∀ (n : Nat) (x1 : Int32) (I : (Nat → Nat → Int32)) (J : (Nat → Nat → Int64)) (r : (Int32 × (Nat → Nat → Int32) × (Nat → Nat → Int64))), fx (fun _ _ _ => none) (bd_162_4 ) n x1 I J = some r → tt (d + 7) me_162 bk_162_4 [some (.ref 97), some (.int x1)] [] (cw (km κ) cs I J W) (.inl (some (.int r.1))) (cw (km κ) cs r.2.1 r.2.2 W)
  | 0 => fun _ _ _ _ h => nomatch h
  | n + 1 => fun x1 I J r h => tb_162_4  (fx _ (bd_162_4 ) n) (tn_162_4  n) x1 I J r h
theorem tl_162_4 {d : Nat} {κ : KT} {cs : Nat × Nat} {W : Nat} (x1 : Int32) (I : (Nat → Nat → Int32)) (J : (Nat → Nat → Int64)) (r : (Int32 × (Nat → Nat → Int32) × (Nat → Nat → Int64))) (h : lb_162_4  x1 I J = some r) : tt (d + 7) me_162 bk_162_4 [some (.ref 97), some (.int x1)] [] (cw (km κ) cs I J W) (.inl (some (.int r.1))) (cw (km κ) cs r.2.1 r.2.2 W) := tn_162_4  FU x1 I J r h
theorem tl_162_2 {d : Nat} {κ : KT} {cs : Nat × Nat} {W : Nat} (x1 : Int32) (s1 : Int32) (I : (Nat → Nat → Int32)) (J : (Nat → Nat → Int64)) (r : (Int32 × (Nat → Nat → Int32) × (Nat → Nat → Int64))) (h : lb_162_2  x1 s1 I J = some r) : tt (d + 7) me_162 bk_162_2 [some (.ref 97), some (.int x1)] [.int s1, .ref 97] (cw (km κ) cs I J W) (.inl (some (.int r.1))) (cw (km κ) cs r.2.1 r.2.2 W) :=
  tt_C (L1 := (bk_162_2.drop 2)) 2 [some (.ref 97), some (.int x1)] [] (cw (km κ) cs I J W) h (fun _ => rfl) (fun _ e => m_132 (d := d + 6) e) fun q2 h =>
  tt_I (L1 := (bk_162_2.drop 3)) (L2 := bk_162_3) 1 [some (.ref 97), some (.int x1)] [] (cw (km κ) cs q2.2 J W) h (fun _ => rfl) (fun h =>
  tt_R 2 (fun r => (.inl (some (.int r.1)))) (fun r => (cw (km κ) cs r.2.1 r.2.2 W)) h (fun _ => rfl)) (fun h =>
  let I3 := up q2.2 97 11 (0 : Int32)
  let I4 := up I3 97 13 ((-1) : Int32)
  tt_J (L1 := (bk_162_3.drop 6)) 5 [some (.ref 97), some (.int x1)] [] (cw (km κ) cs I4 J W) (fun _ => rfl) (
  let I5 := up I4 97 12 (0 : Int32)
  let I6 := up I5 97 15 x1
  tt_J (L1 := (bk_162_3.drop 12)) 5 [some (.ref 97), some (.int x1)] [] (cw (km κ) cs I6 J W) (fun _ => rfl) (
  let I7 := up I6 97 16 (0 : Int32)
  let I8 := up I7 97 23 (27 : Int32)
  tt_J (L1 := (bk_162_3.drop 18)) 5 [some (.ref 97), some (.int x1)] [] (cw (km κ) cs I8 J W) (fun _ => rfl) (
  let I9 := up I8 97 24 (3 : Int32)
  let I10 := up I9 97 25 (0 : Int32)
  tt_J (L1 := (bk_162_3.drop 24)) 5 [some (.ref 97), some (.int x1)] [] (cw (km κ) cs I10 J W) (fun _ => rfl) (
  let I11 := up I10 97 26 (0 : Int32)
  let I12 := up I11 97 27 (0 : Int32)
  tt_J (L1 := (bk_162_3.drop 30)) 5 [some (.ref 97), some (.int x1)] [] (cw (km κ) cs I12 J W) (fun _ => rfl) (
  let I13 := up I12 97 28 (0 : Int32)
  let I14 := up I13 97 29 (0 : Int32)
  tt_J (L1 := (bk_162_3.drop 36)) 5 [some (.ref 97), some (.int x1)] [] (cw (km κ) cs I14 J W) (fun _ => rfl) (
  tt_C (L1 := bk_162_4) 2 [some (.ref 97), some (.int x1)] [] (cw (km κ) cs I14 J W) h (fun _ => rfl) (fun _ e => m_140 (d := d + 5) e) fun q15 h =>
  tt_F [some (.ref 97), some (.int x1)] (And.intro rfl (And.intro rfl trivial)) (tl_162_4  x1 q15.1 q15.2 _ h))))))))
theorem tl_162_1 {d : Nat} {κ : KT} {cs : Nat × Nat} {W : Nat} (x1 : Int32) (I : (Nat → Nat → Int32)) (J : (Nat → Nat → Int64)) (r : (Int32 × (Nat → Nat → Int32) × (Nat → Nat → Int64))) (h : lb_162_1  x1 I J = some r) : tt (d + 7) me_162 bk_162_1 [some (.ref 97), some (.int x1)] [.ref 97] (cw (km κ) cs I J W) (.inl (some (.int r.1))) (cw (km κ) cs r.2.1 r.2.2 W) :=
  tt_J (L1 := bk_162_2) 0 [some (.ref 97), some (.int x1)] [.int (0 : Int32), .ref 97] (cw (km κ) cs I J W) (fun _ => rfl) (tt_F [some (.ref 97), some (.int x1)] (And.intro rfl (And.intro rfl trivial)) (tl_162_2  x1 (0 : Int32) I J _ h))
theorem m_162 {d : Nat} {κ : KT} {cs : Nat × Nat} {W : Nat} {x1 : Int32} {I : (Nat → Nat → Int32)} {J : (Nat → Nat → Int64)} {r : (Int32 × (Nat → Nat → Int32) × (Nat → Nat → Int64))} (h : f_162 x1 I J = some r) : tm (d + 7) 162 [.ref 97, .int x1] (cw (km κ) cs I J W) (.inl (some (.int r.1))) (cw (km κ) cs r.2.1 r.2.2 W) :=
  tm_of me_162 rfl (Nat.le_of_ble_eq_true rfl) (
  let I1 := up I 97 0 (0 : Int32)
  tt_I (L1 := bk_162_1) (L2 := (bk_162_0.drop 6)) 6 [some (.ref 97), some (.int x1)] [.ref 97] (cw (km κ) cs I1 J W) h (fun _ => rfl) (fun h =>
  tt_F [some (.ref 97), some (.int x1)] (And.intro rfl (And.intro rfl trivial)) (tl_162_1  x1 I1 J _ h)) (fun h =>
  tt_I (L1 := bk_162_1) (L2 := (bk_162_0.drop 10)) 4 [some (.ref 97), some (.int x1)] [.ref 97] (cw (km κ) cs I1 J W) h (fun _ => rfl) (fun h =>
  tt_F [some (.ref 97), some (.int x1)] (And.intro rfl (And.intro rfl trivial)) (tl_162_1  x1 I1 J _ h)) (fun h =>
  tt_J (L1 := bk_162_2) 1 [some (.ref 97), some (.int x1)] [.int (1 : Int32), .ref 97] (cw (km κ) cs I1 J W) (fun _ => rfl) (tt_F [some (.ref 97), some (.int x1)] (And.intro rfl (And.intro rfl trivial)) (tl_162_2  x1 (1 : Int32) I1 J _ h)))))
/- 164 -/
def f_164 (I : (Nat → Nat → Int32)) : Option (Int32 × (Nat → Nat → Int32)) :=
  (let I1 := up I 97 0 (0 : Int32)
  (some ((I1 97 13), I1)))
theorem m_164 {d : Nat} {κ : KT} {cs : Nat × Nat} {J : Nat → Nat → Int64} {W : Nat} {I : (Nat → Nat → Int32)} {r : (Int32 × (Nat → Nat → Int32))} (h : f_164  I = some r) : tm d 164 [.ref 97] (cw (km κ) cs I J W) (.inl (some (.int r.1))) (cw (km κ) cs r.2 J W) :=
  tm_of me_164 rfl (Nat.le_of_ble_eq_true rfl) (
  let I1 := up I 97 0 (0 : Int32)
  tt_R 6 (fun r => (.inl (some (.int r.1)))) (fun r => (cw (km κ) cs r.2 J W)) h (fun _ => rfl))
/- 198 -/
def lb_198_3 (c1 : Int32 → Int32 → (Nat → Nat → Int32) → Option Int32) (x2 : Int32) (s0 : Int32) (s1 : Int32) (I : (Nat → Nat → Int32)) : Option Int32 :=
  (c1 (s0 + s1) (x2 + (1 : Int32)) I)
def bd_198_1 (c1 : Int32 → Int32 → (Nat → Nat → Int32) → Option Int32) (x1 : Int32) (x2 : Int32) (I : (Nat → Nat → Int32)) : Option Int32 :=
  (if x2 < (I 97 1) then (if ex_in x2 60 then (if (I 97 4) < (I 124 (x2).toNatClampNeg) then (lb_198_3 c1 x2 x1 (0 : Int32) I) else (lb_198_3 c1 x2 x1 (1 : Int32) I)) else none) else (some x1))
def lb_198_1 : Int32 → Int32 → (Nat → Nat → Int32) → Option Int32 := fx (fun _ _ _ => none) (bd_198_1 ) FU
def f_198 (I : (Nat → Nat → Int32)) : Option Int32 :=
  (lb_198_1  (0 : Int32) (0 : Int32) I)
theorem tl_198_3 {d : Nat} {κ : KT} {cs : Nat × Nat} {J : Nat → Nat → Int64} {W : Nat} (c1 : Int32 → Int32 → (Nat → Nat → Int32) → Option Int32) (k1 : ∀ (x1 : Int32) (x2 : Int32) (I : (Nat → Nat → Int32)) (r : Int32), c1 x1 x2 I = some r → tt d me_198 bk_198_1 [some (.ref 97), some (.int x1), some (.int x2)] [] (cw (km κ) cs I J W) (.inl (some (.int r))) (cw (km κ) cs I J W)) (x2 : Int32) (s0 : Int32) (s1 : Int32) (I : (Nat → Nat → Int32)) (r : Int32) (h : lb_198_3 c1 x2 s0 s1 I = some r) : tt d me_198 bk_198_3 [some (.ref 97), none, some (.int x2)] [.int s1, .int s0] (cw (km κ) cs I J W) (.inl (some (.int r))) (cw (km κ) cs I J W) :=
  tt_J (L1 := bk_198_1) 3 [some (.ref 97), some (.int (s0 + s1)), some (.int (x2 + (1 : Int32)))] [] (cw (km κ) cs I J W) (fun _ => rfl) (tt_F [some (.ref 97), some (.int (s0 + s1)), some (.int (x2 + (1 : Int32)))] (And.intro rfl (And.intro rfl (And.intro rfl trivial))) (k1 (s0 + s1) (x2 + (1 : Int32)) I _ h))
theorem tb_198_1 {d : Nat} {κ : KT} {cs : Nat × Nat} {J : Nat → Nat → Int64} {W : Nat} (c1 : Int32 → Int32 → (Nat → Nat → Int32) → Option Int32) (k1 : ∀ (x1 : Int32) (x2 : Int32) (I : (Nat → Nat → Int32)) (r : Int32), c1 x1 x2 I = some r → tt d me_198 bk_198_1 [some (.ref 97), some (.int x1), some (.int x2)] [] (cw (km κ) cs I J W) (.inl (some (.int r))) (cw (km κ) cs I J W)) (x1 : Int32) (x2 : Int32) (I : (Nat → Nat → Int32)) (r : Int32) (h : bd_198_1  c1 x1 x2 I = some r) : tt d me_198 bk_198_1 [some (.ref 97), some (.int x1), some (.int x2)] [] (cw (km κ) cs I J W) (.inl (some (.int r))) (cw (km κ) cs I J W) :=
  tt_I (L1 := (bk_198_1.drop 4)) (L2 := bk_198_4) 4 [some (.ref 97), some (.int x1), some (.int x2)] [] (cw (km κ) cs I J W) h (fun _ => rfl) (fun h =>
  tt_J (L1 := (bk_198_1.drop 8)) 3 [some (.ref 97), some (.int x1), some (.int x2)] [.int x2, .ref 124, .int x1] (cw (km κ) cs I J W) (fun _ => rfl) (
  tt_Qi rfl h fun h =>
  tt_I (L1 := bk_198_2) (L2 := (bk_198_1.drop 12)) 3 [some (.ref 97), some (.int x1), some (.int x2)] [.int x1] (cw (km κ) cs I J W) h (fun _ => rfl) (fun h =>
  tt_J (L1 := bk_198_3) 0 [some (.ref 97), some (.int x1), some (.int x2)] [.int (0 : Int32), .int x1] (cw (km κ) cs I J W) (fun _ => rfl) (tt_F [some (.ref 97), none, some (.int x2)] (And.intro rfl (And.intro rfl trivial)) (tl_198_3 c1 k1 x2 x1 (0 : Int32) I _ h))) (fun h =>
  tt_J (L1 := bk_198_3) 1 [some (.ref 97), some (.int x1), some (.int x2)] [.int (1 : Int32), .int x1] (cw (km κ) cs I J W) (fun _ => rfl) (tt_F [some (.ref 97), none, some (.int x2)] (And.intro rfl (And.intro rfl trivial)) (tl_198_3 c1 k1 x2 x1 (1 : Int32) I _ h))))) (fun h =>
  tt_R 2 (fun r => (.inl (some (.int r)))) (fun r => (cw (km κ) cs I J W)) h (fun _ => rfl))
theorem tn_198_1 {d : Nat} {κ : KT} {cs : Nat × Nat} {J : Nat → Nat → Int64} {W : Nat} : ∀ (n : Nat) (x1 : Int32) (x2 : Int32) (I : (Nat → Nat → Int32)) (r : Int32), fx (fun _ _ _ => none) (bd_198_1 ) n x1 x2 I = some r → tt d me_198 bk_198_1 [some (.ref 97), some (.int x1), some (.int x2)] [] (cw (km κ) cs I J W) (.inl (some (.int r))) (cw (km κ) cs I J W)
  | 0 => fun _ _ _ _ h => nomatch h
  | n + 1 => fun x1 x2 I r h => tb_198_1  (fx _ (bd_198_1 ) n) (tn_198_1  n) x1 x2 I r h
theorem tl_198_1 {d : Nat} {κ : KT} {cs : Nat × Nat} {J : Nat → Nat → Int64} {W : Nat} (x1 : Int32) (x2 : Int32) (I : (Nat → Nat → Int32)) (r : Int32) (h : lb_198_1  x1 x2 I = some r) : tt d me_198 bk_198_1 [some (.ref 97), some (.int x1), some (.int x2)] [] (cw (km κ) cs I J W) (.inl (some (.int r))) (cw (km κ) cs I J W) := tn_198_1  FU x1 x2 I r h
theorem m_198 {d : Nat} {κ : KT} {cs : Nat × Nat} {J : Nat → Nat → Int64} {W : Nat} {I : (Nat → Nat → Int32)} {r : Int32} (h : f_198  I = some r) : tm d 198 [.ref 97] (cw (km κ) cs I J W) (.inl (some (.int r))) (cw (km κ) cs I J W) :=
  tm_of me_198 rfl (Nat.le_of_ble_eq_true rfl) (
  tt_J (L1 := bk_198_1) 3 [some (.ref 97), some (.int (0 : Int32)), some (.int (0 : Int32))] [] (cw (km κ) cs I J W) (fun _ => rfl) (tt_F [some (.ref 97), some (.int (0 : Int32)), some (.int (0 : Int32))] (And.intro rfl (And.intro rfl (And.intro rfl trivial))) (tl_198_1  (0 : Int32) (0 : Int32) I _ h)))
/- 165 -/
def f_165 (x1 : Int32) (I : (Nat → Nat → Int32)) : Option (Int32 × (Nat → Nat → Int32)) :=
  (let I1 := up I 97 0 (0 : Int32)
  ((f_133 x1 (0 : Int32) (9 : Int32) ).bind fun q2 => ((f_132 q2 (1 : Int32) I1).bind fun q3 => (if q3.1 = 0 then (some ((0 : Int32), q3.2)) else (if x1 = (0 : Int32) then (some ((q3.2 97 1), q3.2)) else (if x1 = (1 : Int32) then (some ((q3.2 97 2), q3.2)) else (if x1 = (2 : Int32) then (some ((q3.2 97 3), q3.2)) else (if x1 = (3 : Int32) then (some ((q3.2 97 4), q3.2)) else (if x1 = (4 : Int32) then (some ((q3.2 97 5), q3.2)) else (if x1 = (5 : Int32) then (some ((q3.2 97 52), q3.2)) else (if x1 = (6 : Int32) then ((f_198  q3.2).bind fun q4 => (some (q4, q3.2))) else (if x1 = (7 : Int32) then (some ((q3.2 97 11), q3.2)) else (if ex_in (x1 - (8 : Int32)) 2 then (some ((q3.2 103 ((x1 - (8 : Int32))).toNatClampNeg), q3.2)) else none)))))))))))))
theorem m_165 {d : Nat} {κ : KT} {cs : Nat × Nat} {J : Nat → Nat → Int64} {W : Nat} {x1 : Int32} {I : (Nat → Nat → Int32)} {r : (Int32 × (Nat → Nat → Int32))} (h : f_165 x1 I = some r) : tm (d + 1) 165 [.ref 97, .int x1] (cw (km κ) cs I J W) (.inl (some (.int r.1))) (cw (km κ) cs r.2 J W) :=
  tm_of me_165 rfl (Nat.le_of_ble_eq_true rfl) (
  let I1 := up I 97 0 (0 : Int32)
  tt_C (L1 := (bk_165_0.drop 8)) 8 [some (.ref 97), some (.int x1)] [.ref 97] (cw (km κ) cs I1 J W) (show ((f_133 x1 (0 : Int32) (9 : Int32) ).bind fun q2 => ((f_132 q2 (1 : Int32) I1).bind fun q3 => (if q3.1 = 0 then (some ((0 : Int32), q3.2)) else (if x1 = (0 : Int32) then (some ((q3.2 97 1), q3.2)) else (if x1 = (1 : Int32) then (some ((q3.2 97 2), q3.2)) else (if x1 = (2 : Int32) then (some ((q3.2 97 3), q3.2)) else (if x1 = (3 : Int32) then (some ((q3.2 97 4), q3.2)) else (if x1 = (4 : Int32) then (some ((q3.2 97 5), q3.2)) else (if x1 = (5 : Int32) then (some ((q3.2 97 52), q3.2)) else (if x1 = (6 : Int32) then ((f_198  q3.2).bind fun q4 => (some (q4, q3.2))) else (if x1 = (7 : Int32) then (some ((q3.2 97 11), q3.2)) else (if ex_in (x1 - (8 : Int32)) 2 then (some ((q3.2 103 ((x1 - (8 : Int32))).toNatClampNeg), q3.2)) else none)))))))))))) = some r from h) (fun _ => rfl) (fun _ e => m_133 (d := d) e) fun q2 h =>
  tt_C (L1 := (bk_165_0.drop 10)) 2 [some (.ref 97), some (.int x1)] [] (cw (km κ) cs I1 J W) h (fun _ => rfl) (fun _ e => m_132 (d := d) e) fun q3 h =>
  tt_I (L1 := (bk_165_0.drop 11)) (L2 := bk_165_1) 1 [some (.ref 97), some (.int x1)] [] (cw (km κ) cs q3.2 J W) h (fun _ => rfl) (fun h =>
  tt_R 2 (fun r => (.inl (some (.int r.1)))) (fun r => (cw (km κ) cs r.2 J W)) h (fun _ => rfl)) (fun h =>
  tt_J (L1 := (bk_165_1.drop 1)) 0 [some (.ref 97), some (.int x1)] [.int x1] (cw (km κ) cs q3.2 J W) (fun _ => rfl) (
  tt_T (L1 := bk_165_2) (0 : Int32) h (fun _ => rfl) (fun h =>
  tt_R 3 (fun r => (.inl (some (.int r.1)))) (fun r => (cw (km κ) cs r.2 J W)) h (fun _ => rfl)) (fun e0 h =>
  tt_T (L1 := bk_165_3) (1 : Int32) h (fun _ => rfl) (fun h =>
  tt_R 3 (fun r => (.inl (some (.int r.1)))) (fun r => (cw (km κ) cs r.2 J W)) h (fun _ => rfl)) (fun e1 h =>
  tt_T (L1 := bk_165_4) (2 : Int32) h (fun _ => rfl) (fun h =>
  tt_R 3 (fun r => (.inl (some (.int r.1)))) (fun r => (cw (km κ) cs r.2 J W)) h (fun _ => rfl)) (fun e2 h =>
  tt_T (L1 := bk_165_5) (3 : Int32) h (fun _ => rfl) (fun h =>
  tt_R 3 (fun r => (.inl (some (.int r.1)))) (fun r => (cw (km κ) cs r.2 J W)) h (fun _ => rfl)) (fun e3 h =>
  tt_T (L1 := bk_165_6) (4 : Int32) h (fun _ => rfl) (fun h =>
  tt_R 3 (fun r => (.inl (some (.int r.1)))) (fun r => (cw (km κ) cs r.2 J W)) h (fun _ => rfl)) (fun e4 h =>
  tt_T (L1 := bk_165_7) (5 : Int32) h (fun _ => rfl) (fun h =>
  tt_R 3 (fun r => (.inl (some (.int r.1)))) (fun r => (cw (km κ) cs r.2 J W)) h (fun _ => rfl)) (fun e5 h =>
  tt_T (L1 := bk_165_8) (6 : Int32) h (fun _ => rfl) (fun h =>
  tt_C (L1 := (bk_165_8.drop 2)) 2 [some (.ref 97), some (.int x1)] [] (cw (km κ) cs q3.2 J W) h (fun _ => rfl) (fun _ e => m_198 (d := d) e) fun q4 h =>
  tt_R 1 (fun r => (.inl (some (.int r.1)))) (fun r => (cw (km κ) cs r.2 J W)) h (fun _ => rfl)) (fun e6 h =>
  tt_T (L1 := bk_165_9) (7 : Int32) h (fun _ => rfl) (fun h =>
  tt_R 3 (fun r => (.inl (some (.int r.1)))) (fun r => (cw (km κ) cs r.2 J W)) h (fun _ => rfl)) (fun e7 h =>
  tt_T0 (by have e0 := nev e0 (show ((0 : Int32)).toInt = 0 from rfl); have e1 := nev e1 (show ((1 : Int32)).toInt = 1 from rfl); have e2 := nev e2 (show ((2 : Int32)).toInt = 2 from rfl); have e3 := nev e3 (show ((3 : Int32)).toInt = 3 from rfl); have e4 := nev e4 (show ((4 : Int32)).toInt = 4 from rfl); have e5 := nev e5 (show ((5 : Int32)).toInt = 5 from rfl); have e6 := nev e6 (show ((6 : Int32)).toInt = 6 from rfl); have e7 := nev e7 (show ((7 : Int32)).toInt = 7 from rfl); omega) (
  tt_J (L1 := (bk_165_10.drop 5)) 4 [some (.ref 97), some (.int x1)] [.int (x1 - (8 : Int32)), .ref 103] (cw (km κ) cs q3.2 J W) (fun _ => rfl) (
  tt_Qi rfl h fun h =>
  tt_R 1 (fun r => (.inl (some (.int r.1)))) (fun r => (cw (km κ) cs r.2 J W)) h (fun _ => rfl))))))))))))))
/- 166 -/
def lb_166_6 (s0 : Int32) (I : (Nat → Nat → Int32)) : Option Int32 :=
  (some s0)
def lb_166_3 (s0 : Int32) (I : (Nat → Nat → Int32)) : Option Int32 :=
  (some s0)
def f_166 (x1 : Int32) (x2 : Int32) (I : (Nat → Nat → Int32)) : Option Int32 :=
  (if x1 = 0 then (if (I 97 2) = 0 then none else (some (x2 - x2 / (I 97 2) * (I 97 2)))) else (if x1 = (1 : Int32) then (if ((2 : Int32) * (I 97 2)) = 0 then none else (if (x2 - x2 / ((2 : Int32) * (I 97 2)) * ((2 : Int32) * (I 97 2))) < (I 97 2) then (lb_166_3  (x2 - x2 / ((2 : Int32) * (I 97 2)) * ((2 : Int32) * (I 97 2))) I) else (lb_166_3  ((((2 : Int32) * (I 97 2)) - (1 : Int32)) - (x2 - x2 / ((2 : Int32) * (I 97 2)) * ((2 : Int32) * (I 97 2)))) I))) else (if (I 97 2) = 0 then none else (if (I 97 2) = 0 then none else (if x2 < (((I 97 1) - (I 97 1) / (I 97 2) * (I 97 2)) * (((I 97 1) / (I 97 2)) + (1 : Int32))) then (if (((I 97 1) / (I 97 2)) + (1 : Int32)) = 0 then none else (lb_166_6  (x2 / (((I 97 1) / (I 97 2)) + (1 : Int32))) I)) else (if ((I 97 1) / (I 97 2)) = 0 then none else (lb_166_6  (((I 97 1) - (I 97 1) / (I 97 2) * (I 97 2)) + ((x2 - (((I 97 1) - (I 97 1) / (I 97 2) * (I 97 2)) * (((I 97 1) / (I 97 2)) + (1 : Int32)))) / ((I 97 1) / (I 97 2)))) I)))))))
theorem tl_166_6 {d : Nat} {κ : KT} {cs : Nat × Nat} {J : Nat → Nat → Int64} {W : Nat} (s0 : Int32) (I : (Nat → Nat → Int32)) (r : Int32) (h : lb_166_6  s0 I = some r) : tt d me_166 bk_166_6 [none, none, none, none, none] [.int s0] (cw (km κ) cs I J W) (.inl (some (.int r))) (cw (km κ) cs I J W) :=
  tt_R 1 (fun r => (.inl (some (.int r)))) (fun r => (cw (km κ) cs I J W)) h (fun _ => rfl)
theorem tl_166_3 {d : Nat} {κ : KT} {cs : Nat × Nat} {J : Nat → Nat → Int64} {W : Nat} (s0 : Int32) (I : (Nat → Nat → Int32)) (r : Int32) (h : lb_166_3  s0 I = some r) : tt d me_166 bk_166_3 [none, none, none, none, none] [.int s0] (cw (km κ) cs I J W) (.inl (some (.int r))) (cw (km κ) cs I J W) :=
  tt_R 1 (fun r => (.inl (some (.int r)))) (fun r => (cw (km κ) cs I J W)) h (fun _ => rfl)
theorem m_166 {d : Nat} {κ : KT} {cs : Nat × Nat} {J : Nat → Nat → Int64} {W : Nat} {x1 : Int32} {x2 : Int32} {I : (Nat → Nat → Int32)} {r : Int32} (h : f_166 x1 x2 I = some r) : tm d 166 [.ref 97, .int x1, .int x2] (cw (km κ) cs I J W) (.inl (some (.int r))) (cw (km κ) cs I J W) :=
  tm_of me_166 rfl (Nat.le_of_ble_eq_true rfl) (
  tt_I (L1 := (bk_166_0.drop 2)) (L2 := bk_166_1) 2 [some (.ref 97), some (.int x1), some (.int x2), none, none] [] (cw (km κ) cs I J W) h (fun _ => rfl) (fun h =>
  tt_J (L1 := (bk_166_0.drop 5)) 2 [some (.ref 97), some (.int x1), some (.int x2), none, none] [.int (I 97 2), .int x2] (cw (km κ) cs I J W) (fun _ => rfl) (
  tt_Dr h fun h =>
  tt_R 1 (fun r => (.inl (some (.int r)))) (fun r => (cw (km κ) cs I J W)) h (fun _ => rfl))) (fun h =>
  tt_I (L1 := (bk_166_1.drop 3)) (L2 := bk_166_4) 3 [some (.ref 97), some (.int x1), some (.int x2), none, none] [] (cw (km κ) cs I J W) h (fun _ => rfl) (fun h =>
  tt_J (L1 := (bk_166_1.drop 8)) 4 [some (.ref 97), some (.int x1), some (.int x2), none, none] [.int ((2 : Int32) * (I 97 2)), .int x2] (cw (km κ) cs I J W) (fun _ => rfl) (
  tt_Dr h fun h =>
  tt_I (L1 := (bk_166_1.drop 14)) (L2 := bk_166_2) 5 [some (.ref 97), some (.int x1), some (.int x2), some (.int (x2 - x2 / ((2 : Int32) * (I 97 2)) * ((2 : Int32) * (I 97 2)))), none] [] (cw (km κ) cs I J W) h (fun _ => rfl) (fun h =>
  tt_J (L1 := bk_166_3) 1 [some (.ref 97), some (.int x1), some (.int x2), some (.int (x2 - x2 / ((2 : Int32) * (I 97 2)) * ((2 : Int32) * (I 97 2)))), none] [.int (x2 - x2 / ((2 : Int32) * (I 97 2)) * ((2 : Int32) * (I 97 2)))] (cw (km κ) cs I J W) (fun _ => rfl) (tt_F [none, none, none, none, none] trivial (tl_166_3  (x2 - x2 / ((2 : Int32) * (I 97 2)) * ((2 : Int32) * (I 97 2))) I _ h))) (fun h =>
  tt_J (L1 := bk_166_3) 7 [some (.ref 97), some (.int x1), some (.int x2), some (.int (x2 - x2 / ((2 : Int32) * (I 97 2)) * ((2 : Int32) * (I 97 2)))), none] [.int ((((2 : Int32) * (I 97 2)) - (1 : Int32)) - (x2 - x2 / ((2 : Int32) * (I 97 2)) * ((2 : Int32) * (I 97 2))))] (cw (km κ) cs I J W) (fun _ => rfl) (tt_F [none, none, none, none, none] trivial (tl_166_3  ((((2 : Int32) * (I 97 2)) - (1 : Int32)) - (x2 - x2 / ((2 : Int32) * (I 97 2)) * ((2 : Int32) * (I 97 2)))) I _ h))))) (fun h =>
  tt_J (L1 := (bk_166_4.drop 4)) 3 [some (.ref 97), some (.int x1), some (.int x2), none, none] [.int (I 97 2), .int (I 97 1)] (cw (km κ) cs I J W) (fun _ => rfl) (
  tt_Di h fun h =>
  tt_J (L1 := (bk_166_4.drop 10)) 4 [some (.ref 97), some (.int x1), some (.int x2), some (.int ((I 97 1) / (I 97 2))), none] [.int (I 97 2), .int (I 97 1)] (cw (km κ) cs I J W) (fun _ => rfl) (
  tt_Dr h fun h =>
  tt_I (L1 := (bk_166_4.drop 19)) (L2 := bk_166_5) 8 [some (.ref 97), some (.int x1), some (.int x2), some (.int ((I 97 1) / (I 97 2))), some (.int ((I 97 1) - (I 97 1) / (I 97 2) * (I 97 2)))] [] (cw (km κ) cs I J W) h (fun _ => rfl) (fun h =>
  tt_J (L1 := (bk_166_4.drop 23)) 3 [some (.ref 97), some (.int x1), some (.int x2), some (.int ((I 97 1) / (I 97 2))), some (.int ((I 97 1) - (I 97 1) / (I 97 2) * (I 97 2)))] [.int (((I 97 1) / (I 97 2)) + (1 : Int32)), .int x2] (cw (km κ) cs I J W) (fun _ => rfl) (
  tt_Di h fun h =>
  tt_J (L1 := bk_166_6) 0 [some (.ref 97), some (.int x1), some (.int x2), some (.int ((I 97 1) / (I 97 2))), some (.int ((I 97 1) - (I 97 1) / (I 97 2) * (I 97 2)))] [.int (x2 / (((I 97 1) / (I 97 2)) + (1 : Int32)))] (cw (km κ) cs I J W) (fun _ => rfl) (tt_F [none, none, none, none, none] trivial (tl_166_6  (x2 / (((I 97 1) / (I 97 2)) + (1 : Int32))) I _ h)))) (fun h =>
  tt_J (L1 := (bk_166_5.drop 9)) 8 [some (.ref 97), some (.int x1), some (.int x2), some (.int ((I 97 1) / (I 97 2))), some (.int ((I 97 1) - (I 97 1) / (I 97 2) * (I 97 2)))] [.int ((I 97 1) / (I 97 2)), .int (x2 - (((I 97 1) - (I 97 1) / (I 97 2) * (I 97 2)) * (((I 97 1) / (I 97 2)) + (1 : Int32)))), .int ((I 97 1) - (I 97 1) / (I 97 2) * (I 97 2))] (cw (km κ) cs I J W) (fun _ => rfl) (
  tt_Di h fun h =>
  tt_J (L1 := bk_166_6) 0 [some (.ref 97), some (.int x1), some (.int x2), some (.int ((I 97 1) / (I 97 2))), some (.int ((I 97 1) - (I 97 1) / (I 97 2) * (I 97 2)))] [.int (((I 97 1) - (I 97 1) / (I 97 2) * (I 97 2)) + ((x2 - (((I 97 1) - (I 97 1) / (I 97 2) * (I 97 2)) * (((I 97 1) / (I 97 2)) + (1 : Int32)))) / ((I 97 1) / (I 97 2))))] (cw (km κ) cs I J W) (fun _ => rfl) (tt_F [none, none, none, none, none] trivial (tl_166_6  (((I 97 1) - (I 97 1) / (I 97 2) * (I 97 2)) + ((x2 - (((I 97 1) - (I 97 1) / (I 97 2) * (I 97 2)) * (((I 97 1) / (I 97 2)) + (1 : Int32)))) / ((I 97 1) / (I 97 2)))) I _ h)))))))))
/- 167 -/
def lb_167_6 (I : (Nat → Nat → Int32)) : Option (Nat → Nat → Int32) :=
  (some I)
def bd_167_5 (c5 : Int32 → Int32 → (Nat → Nat → Int32) → Option (Nat → Nat → Int32)) (x2 : Int32) (x3 : Int32) (I : (Nat → Nat → Int32)) : Option (Nat → Nat → Int32) :=
  (if x3 < (I 97 1) then (if x2 = (1 : Int32) then (if ex_in x3 60 then (if ex_in (I 110 (x3).toNatClampNeg) 6 then (if ex_in x3 60 then (if ex_in x3 60 then let I1 := up I 111 (x3).toNatClampNeg (((I 112 ((I 110 (x3).toNatClampNeg)).toNatClampNeg) - (1 : Int32)) - (I 111 (x3).toNatClampNeg))
  (c5 x2 (x3 + (1 : Int32)) I1) else none) else none) else none) else none) else (lb_167_6   I)) else (lb_167_6   I))
def lb_167_5 : Int32 → Int32 → (Nat → Nat → Int32) → Option (Nat → Nat → Int32) := fx (fun _ _ _ => none) (bd_167_5 ) FU
def bd_167_3 (c3 : Int32 → Int32 → Int32 → (Nat → Nat → Int32) → Option (Nat → Nat → Int32)) (x1 : Int32) (x2 : Int32) (x3 : Int32) (I : (Nat → Nat → Int32)) : Option (Nat → Nat → Int32) :=
  (if x3 < (I 97 1) then ((f_166 x1 x3 I).bind fun q2 => (if ex_in x3 60 then let I3 := up I 110 (x3).toNatClampNeg q2
  (if ex_in x3 60 then (if ex_in (I3 110 (x3).toNatClampNeg) 6 then (if ex_in x3 60 then let I4 := up I3 111 (x3).toNatClampNeg (I3 112 ((I3 110 (x3).toNatClampNeg)).toNatClampNeg)
  (if ex_in x3 60 then (if ex_in (I4 110 (x3).toNatClampNeg) 6 then (if ex_in (I4 110 (x3).toNatClampNeg) 6 then let I5 := up I4 112 ((I4 110 (x3).toNatClampNeg)).toNatClampNeg ((I4 112 ((I4 110 (x3).toNatClampNeg)).toNatClampNeg) + (1 : Int32))
  (c3 x1 x2 (x3 + (1 : Int32)) I5) else none) else none) else none) else none) else none) else none) else none)) else (lb_167_5  x2 (0 : Int32) I))
def lb_167_3 : Int32 → Int32 → Int32 → (Nat → Nat → Int32) → Option (Nat → Nat → Int32) := fx (fun _ _ _ _ => none) (bd_167_3 ) FU
def bd_167_1 (c1 : Int32 → Int32 → Int32 → (Nat → Nat → Int32) → Option (Nat → Nat → Int32)) (x1 : Int32) (x2 : Int32) (x3 : Int32) (I : (Nat → Nat → Int32)) : Option (Nat → Nat → Int32) :=
  (if x3 < (6 : Int32) then (if ex_in x3 6 then let I6 := up I 112 (x3).toNatClampNeg (0 : Int32)
  (c1 x1 x2 (x3 + (1 : Int32)) I6) else none) else (lb_167_3  x1 x2 (0 : Int32) I))
def lb_167_1 : Int32 → Int32 → Int32 → (Nat → Nat → Int32) → Option (Nat → Nat → Int32) := fx (fun _ _ _ _ => none) (bd_167_1 ) FU
def f_167 (x1 : Int32) (x2 : Int32) (I : (Nat → Nat → Int32)) : Option (Nat → Nat → Int32) :=
  (lb_167_1  x1 x2 (0 : Int32) I)
theorem tl_167_6 {d : Nat} {κ : KT} {cs : Nat × Nat} {J : Nat → Nat → Int64} {W : Nat} (I : (Nat → Nat → Int32)) (r : (Nat → Nat → Int32)) (h : lb_167_6   I = some r) : tt (d + 1) me_167 bk_167_6 [none, none, none, none] [] (cw (km κ) cs I J W) (.inl none) (cw (km κ) cs r J W) :=
  tt_R 1 (fun r => (.inl none)) (fun r => (cw (km κ) cs r J W)) h (fun _ => rfl)
theorem tb_167_5 {d : Nat} {κ : KT} {cs : Nat × Nat} {J : Nat → Nat → Int64} {W : Nat} (c5 : Int32 → Int32 → (Nat → Nat → Int32) → Option (Nat → Nat → Int32)) (k5 : ∀ (x2 : Int32) (x3 : Int32) (I : (Nat → Nat → Int32)) (r : (Nat → Nat → Int32)), c5 x2 x3 I = some r → tt (d + 1) me_167 bk_167_5 [some (.ref 97), none, some (.int x2), some (.int x3)] [] (cw (km κ) cs I J W) (.inl none) (cw (km κ) cs r J W)) (x2 : Int32) (x3 : Int32) (I : (Nat → Nat → Int32)) (r : (Nat → Nat → Int32)) (h : bd_167_5  c5 x2 x3 I = some r) : tt (d + 1) me_167 bk_167_5 [some (.ref 97), none, some (.int x2), some (.int x3)] [] (cw (km κ) cs I J W) (.inl none) (cw (km κ) cs r J W) :=
  tt_I (L1 := (bk_167_5.drop 4)) (L2 := bk_167_6) 4 [some (.ref 97), none, some (.int x2), some (.int x3)] [] (cw (km κ) cs I J W) h (fun _ => rfl) (fun h =>
  tt_I (L1 := (bk_167_5.drop 7)) (L2 := bk_167_6) 3 [some (.ref 97), none, some (.int x2), some (.int x3)] [] (cw (km κ) cs I J W) h (fun _ => rfl) (fun h =>
  tt_J (L1 := (bk_167_5.drop 15)) 7 [some (.ref 97), none, some (.int x2), some (.int x3)] [.int x3, .ref 110, .ref 112, .int x3, .ref 111] (cw (km κ) cs I J W) (fun _ => rfl) (
  tt_Qi rfl h fun h =>
  tt_Qi rfl h fun h =>
  tt_J (L1 := (bk_167_5.drop 22)) 4 [some (.ref 97), none, some (.int x2), some (.int x3)] [.int x3, .ref 111, .int ((I 112 ((I 110 (x3).toNatClampNeg)).toNatClampNeg) - (1 : Int32)), .int x3, .ref 111] (cw (km κ) cs I J W) (fun _ => rfl) (
  tt_Qi rfl h fun h =>
  let I1 := up I 111 (x3).toNatClampNeg (((I 112 ((I 110 (x3).toNatClampNeg)).toNatClampNeg) - (1 : Int32)) - (I 111 (x3).toNatClampNeg))
  tt_J (L1 := (bk_167_5.drop 24)) 0 [some (.ref 97), none, some (.int x2), some (.int x3)] [.int (((I 112 ((I 110 (x3).toNatClampNeg)).toNatClampNeg) - (1 : Int32)) - (I 111 (x3).toNatClampNeg)), .int x3, .ref 111] (cw (km κ) cs I J W) (fun _ => rfl) (
  tt_Wi rfl (Nat.le_of_ble_eq_true rfl) h fun h =>
  tt_J (L1 := bk_167_5) 1 [some (.ref 97), none, some (.int x2), some (.int (x3 + (1 : Int32)))] [] (cw (km κ) cs I1 J W) (fun _ => rfl) (tt_F [some (.ref 97), none, some (.int x2), some (.int (x3 + (1 : Int32)))] (And.intro rfl (And.intro rfl (And.intro rfl trivial))) (k5 x2 (x3 + (1 : Int32)) I1 _ h)))))) (fun h =>
  tt_F [none, none, none, none] trivial (tl_167_6   I _ h))) (fun h =>
  tt_F [none, none, none, none] trivial (tl_167_6   I _ h))
theorem tn_167_5 {d : Nat} {κ : KT} {cs : Nat × Nat} {J : Nat → Nat → Int64} {W : Nat} : ∀ (n : Nat) (x2 : Int32) (x3 : Int32) (I : (Nat → Nat → Int32)) (r : (Nat → Nat → Int32)), fx (fun _ _ _ => none) (bd_167_5 ) n x2 x3 I = some r → tt (d + 1) me_167 bk_167_5 [some (.ref 97), none, some (.int x2), some (.int x3)] [] (cw (km κ) cs I J W) (.inl none) (cw (km κ) cs r J W)
  | 0 => fun _ _ _ _ h => nomatch h
  | n + 1 => fun x2 x3 I r h => tb_167_5  (fx _ (bd_167_5 ) n) (tn_167_5  n) x2 x3 I r h
theorem tl_167_5 {d : Nat} {κ : KT} {cs : Nat × Nat} {J : Nat → Nat → Int64} {W : Nat} (x2 : Int32) (x3 : Int32) (I : (Nat → Nat → Int32)) (r : (Nat → Nat → Int32)) (h : lb_167_5  x2 x3 I = some r) : tt (d + 1) me_167 bk_167_5 [some (.ref 97), none, some (.int x2), some (.int x3)] [] (cw (km κ) cs I J W) (.inl none) (cw (km κ) cs r J W) := tn_167_5  FU x2 x3 I r h
theorem tb_167_3 {d : Nat} {κ : KT} {cs : Nat × Nat} {J : Nat → Nat → Int64} {W : Nat} (c3 : Int32 → Int32 → Int32 → (Nat → Nat → Int32) → Option (Nat → Nat → Int32)) (k3 : ∀ (x1 : Int32) (x2 : Int32) (x3 : Int32) (I : (Nat → Nat → Int32)) (r : (Nat → Nat → Int32)), c3 x1 x2 x3 I = some r → tt (d + 1) me_167 bk_167_3 [some (.ref 97), some (.int x1), some (.int x2), some (.int x3)] [] (cw (km κ) cs I J W) (.inl none) (cw (km κ) cs r J W)) (x1 : Int32) (x2 : Int32) (x3 : Int32) (I : (Nat → Nat → Int32)) (r : (Nat → Nat → Int32)) (h : bd_167_3  c3 x1 x2 x3 I = some r) : tt (d + 1) me_167 bk_167_3 [some (.ref 97), some (.int x1), some (.int x2), some (.int x3)] [] (cw (km κ) cs I J W) (.inl none) (cw (km κ) cs r J W) :=
  tt_I (L1 := (bk_167_3.drop 4)) (L2 := bk_167_4) 4 [some (.ref 97), some (.int x1), some (.int x2), some (.int x3)] [] (cw (km κ) cs I J W) h (fun _ => rfl) (fun h =>
  tt_C (L1 := (bk_167_3.drop 11)) 7 [some (.ref 97), some (.int x1), some (.int x2), some (.int x3)] [.int x3, .ref 110] (cw (km κ) cs I J W) h (fun _ => rfl) (fun _ e => m_166 (d := d) e) fun q2 h =>
  let I3 := up I 110 (x3).toNatClampNeg q2
  tt_Wi rfl (Nat.le_of_ble_eq_true rfl) h fun h =>
  tt_J (L1 := (bk_167_3.drop 20)) 7 [some (.ref 97), some (.int x1), some (.int x2), some (.int x3)] [.int x3, .ref 110, .ref 112, .int x3, .ref 111] (cw (km κ) cs I3 J W) (fun _ => rfl) (
  tt_Qi rfl h fun h =>
  tt_Qi rfl h fun h =>
  let I4 := up I3 111 (x3).toNatClampNeg (I3 112 ((I3 110 (x3).toNatClampNeg)).toNatClampNeg)
  tt_Wi rfl (Nat.le_of_ble_eq_true rfl) h fun h =>
  tt_J (L1 := (bk_167_3.drop 28)) 4 [some (.ref 97), some (.int x1), some (.int x2), some (.int x3)] [.int x3, .ref 110, .ref 112] (cw (km κ) cs I4 J W) (fun _ => rfl) (
  tt_Qi rfl h fun h =>
  tt_J (L1 := (bk_167_3.drop 30)) 0 [some (.ref 97), some (.int x1), some (.int x2), some (.int x3)] [.int (I4 110 (x3).toNatClampNeg), .ref 112, .int (I4 110 (x3).toNatClampNeg), .ref 112] (cw (km κ) cs I4 J W) (fun _ => rfl) (
  tt_Qi rfl h fun h =>
  let I5 := up I4 112 ((I4 110 (x3).toNatClampNeg)).toNatClampNeg ((I4 112 ((I4 110 (x3).toNatClampNeg)).toNatClampNeg) + (1 : Int32))
  tt_J (L1 := (bk_167_3.drop 33)) 1 [some (.ref 97), some (.int x1), some (.int x2), some (.int x3)] [.int ((I4 112 ((I4 110 (x3).toNatClampNeg)).toNatClampNeg) + (1 : Int32)), .int (I4 110 (x3).toNatClampNeg), .ref 112] (cw (km κ) cs I4 J W) (fun _ => rfl) (
  tt_Wi rfl (Nat.le_of_ble_eq_true rfl) h fun h =>
  tt_J (L1 := bk_167_3) 1 [some (.ref 97), some (.int x1), some (.int x2), some (.int (x3 + (1 : Int32)))] [] (cw (km κ) cs I5 J W) (fun _ => rfl) (tt_F [some (.ref 97), some (.int x1), some (.int x2), some (.int (x3 + (1 : Int32)))] (And.intro rfl (And.intro rfl (And.intro rfl (And.intro rfl trivial)))) (k3 x1 x2 (x3 + (1 : Int32)) I5 _ h))))))) (fun h =>
  tt_J (L1 := bk_167_5) 1 [some (.ref 97), some (.int x1), some (.int x2), some (.int (0 : Int32))] [] (cw (km κ) cs I J W) (fun _ => rfl) (tt_F [some (.ref 97), none, some (.int x2), some (.int (0 : Int32))] (And.intro rfl (And.intro rfl (And.intro rfl trivial))) (tl_167_5  x2 (0 : Int32) I _ h)))
theorem tn_167_3 {d : Nat} {κ : KT} {cs : Nat × Nat} {J : Nat → Nat → Int64} {W : Nat} : ∀ (n : Nat) (x1 : Int32) (x2 : Int32) (x3 : Int32) (I : (Nat → Nat → Int32)) (r : (Nat → Nat → Int32)), fx (fun _ _ _ _ => none) (bd_167_3 ) n x1 x2 x3 I = some r → tt (d + 1) me_167 bk_167_3 [some (.ref 97), some (.int x1), some (.int x2), some (.int x3)] [] (cw (km κ) cs I J W) (.inl none) (cw (km κ) cs r J W)
  | 0 => fun _ _ _ _ _ h => nomatch h
  | n + 1 => fun x1 x2 x3 I r h => tb_167_3  (fx _ (bd_167_3 ) n) (tn_167_3  n) x1 x2 x3 I r h
theorem tl_167_3 {d : Nat} {κ : KT} {cs : Nat × Nat} {J : Nat → Nat → Int64} {W : Nat} (x1 : Int32) (x2 : Int32) (x3 : Int32) (I : (Nat → Nat → Int32)) (r : (Nat → Nat → Int32)) (h : lb_167_3  x1 x2 x3 I = some r) : tt (d + 1) me_167 bk_167_3 [some (.ref 97), some (.int x1), some (.int x2), some (.int x3)] [] (cw (km κ) cs I J W) (.inl none) (cw (km κ) cs r J W) := tn_167_3  FU x1 x2 x3 I r h
theorem tb_167_1 {d : Nat} {κ : KT} {cs : Nat × Nat} {J : Nat → Nat → Int64} {W : Nat} (c1 : Int32 → Int32 → Int32 → (Nat → Nat → Int32) → Option (Nat → Nat → Int32)) (k1 : ∀ (x1 : Int32) (x2 : Int32) (x3 : Int32) (I : (Nat → Nat → Int32)) (r : (Nat → Nat → Int32)), c1 x1 x2 x3 I = some r → tt (d + 1) me_167 bk_167_1 [some (.ref 97), some (.int x1), some (.int x2), some (.int x3)] [] (cw (km κ) cs I J W) (.inl none) (cw (km κ) cs r J W)) (x1 : Int32) (x2 : Int32) (x3 : Int32) (I : (Nat → Nat → Int32)) (r : (Nat → Nat → Int32)) (h : bd_167_1  c1 x1 x2 x3 I = some r) : tt (d + 1) me_167 bk_167_1 [some (.ref 97), some (.int x1), some (.int x2), some (.int x3)] [] (cw (km κ) cs I J W) (.inl none) (cw (km κ) cs r J W) :=
  tt_I (L1 := (bk_167_1.drop 3)) (L2 := bk_167_2) 3 [some (.ref 97), some (.int x1), some (.int x2), some (.int x3)] [] (cw (km κ) cs I J W) h (fun _ => rfl) (fun h =>
  let I6 := up I 112 (x3).toNatClampNeg (0 : Int32)
  tt_J (L1 := (bk_167_1.drop 7)) 3 [some (.ref 97), some (.int x1), some (.int x2), some (.int x3)] [.int (0 : Int32), .int x3, .ref 112] (cw (km κ) cs I J W) (fun _ => rfl) (
  tt_Wi rfl (Nat.le_of_ble_eq_true rfl) h fun h =>
  tt_J (L1 := bk_167_1) 1 [some (.ref 97), some (.int x1), some (.int x2), some (.int (x3 + (1 : Int32)))] [] (cw (km κ) cs I6 J W) (fun _ => rfl) (tt_F [some (.ref 97), some (.int x1), some (.int x2), some (.int (x3 + (1 : Int32)))] (And.intro rfl (And.intro rfl (And.intro rfl (And.intro rfl trivial)))) (k1 x1 x2 (x3 + (1 : Int32)) I6 _ h)))) (fun h =>
  tt_J (L1 := bk_167_3) 1 [some (.ref 97), some (.int x1), some (.int x2), some (.int (0 : Int32))] [] (cw (km κ) cs I J W) (fun _ => rfl) (tt_F [some (.ref 97), some (.int x1), some (.int x2), some (.int (0 : Int32))] (And.intro rfl (And.intro rfl (And.intro rfl (And.intro rfl trivial)))) (tl_167_3  x1 x2 (0 : Int32) I _ h)))
theorem tn_167_1 {d : Nat} {κ : KT} {cs : Nat × Nat} {J : Nat → Nat → Int64} {W : Nat} : ∀ (n : Nat) (x1 : Int32) (x2 : Int32) (x3 : Int32) (I : (Nat → Nat → Int32)) (r : (Nat → Nat → Int32)), fx (fun _ _ _ _ => none) (bd_167_1 ) n x1 x2 x3 I = some r → tt (d + 1) me_167 bk_167_1 [some (.ref 97), some (.int x1), some (.int x2), some (.int x3)] [] (cw (km κ) cs I J W) (.inl none) (cw (km κ) cs r J W)
  | 0 => fun _ _ _ _ _ h => nomatch h
  | n + 1 => fun x1 x2 x3 I r h => tb_167_1  (fx _ (bd_167_1 ) n) (tn_167_1  n) x1 x2 x3 I r h
theorem tl_167_1 {d : Nat} {κ : KT} {cs : Nat × Nat} {J : Nat → Nat → Int64} {W : Nat} (x1 : Int32) (x2 : Int32) (x3 : Int32) (I : (Nat → Nat → Int32)) (r : (Nat → Nat → Int32)) (h : lb_167_1  x1 x2 x3 I = some r) : tt (d + 1) me_167 bk_167_1 [some (.ref 97), some (.int x1), some (.int x2), some (.int x3)] [] (cw (km κ) cs I J W) (.inl none) (cw (km κ) cs r J W) := tn_167_1  FU x1 x2 x3 I r h
theorem m_167 {d : Nat} {κ : KT} {cs : Nat × Nat} {J : Nat → Nat → Int64} {W : Nat} {x1 : Int32} {x2 : Int32} {I : (Nat → Nat → Int32)} {r : (Nat → Nat → Int32)} (h : f_167 x1 x2 I = some r) : tm (d + 1) 167 [.ref 97, .int x1, .int x2] (cw (km κ) cs I J W) (.inl none) (cw (km κ) cs r J W) :=
  tm_of me_167 rfl (Nat.le_of_ble_eq_true rfl) (
  tt_J (L1 := bk_167_1) 1 [some (.ref 97), some (.int x1), some (.int x2), some (.int (0 : Int32))] [] (cw (km κ) cs I J W) (fun _ => rfl) (tt_F [some (.ref 97), some (.int x1), some (.int x2), some (.int (0 : Int32))] (And.intro rfl (And.intro rfl (And.intro rfl (And.intro rfl trivial)))) (tl_167_1  x1 x2 (0 : Int32) I _ h)))
/- 169 -/
def f_169 (x1 : Int32) (x2 : Int32) (x3 : Int32) (I : (Nat → Nat → Int32)) : Option (Int32 × (Nat → Nat → Int32)) :=
  (if ex_in x1 6 then let I1 := up I 114 (x1).toNatClampNeg x2
  (if x3 = x2 then (some ((x1 + (1 : Int32)), I1)) else (if ex_in (x1 + (1 : Int32)) 6 then let I2 := up I1 114 ((x1 + (1 : Int32))).toNatClampNeg x3
  (some ((x1 + (2 : Int32)), I2)) else none)) else none)
theorem m_169 {d : Nat} {κ : KT} {cs : Nat × Nat} {J : Nat → Nat → Int64} {W : Nat} {x1 : Int32} {x2 : Int32} {x3 : Int32} {I : (Nat → Nat → Int32)} {r : (Int32 × (Nat → Nat → Int32))} (h : f_169 x1 x2 x3 I = some r) : tm d 169 [.ref 97, .int x1, .int x2, .int x3] (cw (km κ) cs I J W) (.inl (some (.int r.1))) (cw (km κ) cs r.2 J W) :=
  tm_of me_169 rfl (Nat.le_of_ble_eq_true rfl) (
  let I1 := up I 114 (x1).toNatClampNeg x2
  tt_J (L1 := (bk_169_0.drop 4)) 3 [some (.ref 97), some (.int x1), some (.int x2), some (.int x3)] [.int x2, .int x1, .ref 114] (cw (km κ) cs I J W) (fun _ => rfl) (
  tt_Wi rfl (Nat.le_of_ble_eq_true rfl) h fun h =>
  tt_I (L1 := (bk_169_0.drop 8)) (L2 := bk_169_1) 3 [some (.ref 97), some (.int x1), some (.int x2), some (.int x3)] [] (cw (km κ) cs I1 J W) h (fun _ => rfl) (fun h =>
  tt_R 4 (fun r => (.inl (some (.int r.1)))) (fun r => (cw (km κ) cs r.2 J W)) h (fun _ => rfl)) (fun h =>
  let I2 := up I1 114 ((x1 + (1 : Int32))).toNatClampNeg x3
  tt_J (L1 := (bk_169_1.drop 6)) 5 [some (.ref 97), some (.int x1), some (.int x2), some (.int x3)] [.int x3, .int (x1 + (1 : Int32)), .ref 114] (cw (km κ) cs I1 J W) (fun _ => rfl) (
  tt_Wi rfl (Nat.le_of_ble_eq_true rfl) h fun h =>
  tt_R 4 (fun r => (.inl (some (.int r.1)))) (fun r => (cw (km κ) cs r.2 J W)) h (fun _ => rfl)))))
/- 168 -/
def bd_168_7 (c7 : Int32 → Int32 → (Nat → Nat → Int32) → Option (Nat → Nat → Int32)) (x6 : Int32) (x7 : Int32) (I : (Nat → Nat → Int32)) : Option (Nat → Nat → Int32) :=
  (if x7 < (I 97 2) then (if ex_in x7 6 then (if ex_in (I 114 (x7).toNatClampNeg) 6 then let I1 := up I 113 ((I 114 (x7).toNatClampNeg)).toNatClampNeg x6
  (if ex_in x7 6 then (if ex_in (I1 114 (x7).toNatClampNeg) 6 then (c7 (x6 + (I1 112 ((I1 114 (x7).toNatClampNeg)).toNatClampNeg)) (x7 + (1 : Int32)) I1) else none) else none) else none) else none) else (some I))
def lb_168_7 : Int32 → Int32 → (Nat → Nat → Int32) → Option (Nat → Nat → Int32) := fx (fun _ _ _ => none) (bd_168_7 ) FU
def lb_168_6 (I : (Nat → Nat → Int32)) : Option (Nat → Nat → Int32) :=
  (lb_168_7  (0 : Int32) (0 : Int32) I)
def lb_168_4 (c1 : Int32 → Int32 → Int32 → Int32 → Int32 → Int32 → (Nat → Nat → Int32) → Option (Nat → Nat → Int32)) (x1 : Int32) (x2 : Int32) (x3 : Int32) (x4 : Int32) (x5 : Int32) (x6 : Int32) (I : (Nat → Nat → Int32)) : Option (Nat → Nat → Int32) :=
  (c1 x1 x2 x3 x4 x5 (x6 + (1 : Int32)) I)
def lb_168_3 (c1 : Int32 → Int32 → Int32 → Int32 → Int32 → Int32 → (Nat → Nat → Int32) → Option (Nat → Nat → Int32)) (x1 : Int32) (x2 : Int32) (x3 : Int32) (x4 : Int32) (x5 : Int32) (x6 : Int32) (I : (Nat → Nat → Int32)) : Option (Nat → Nat → Int32) :=
  (if ex_in x4 6 then let I3 := up I 114 (x4).toNatClampNeg x6
  (lb_168_4 c1 x1 x2 x3 (x4 + (1 : Int32)) (x5 + (1 : Int32)) x6 I3) else none)
def bd_168_1 (c1 : Int32 → Int32 → Int32 → Int32 → Int32 → Int32 → (Nat → Nat → Int32) → Option (Nat → Nat → Int32)) (x1 : Int32) (x2 : Int32) (x3 : Int32) (x4 : Int32) (x5 : Int32) (x6 : Int32) (I : (Nat → Nat → Int32)) : Option (Nat → Nat → Int32) :=
  (if x6 < (I 97 2) then (if x6 = x1 then (lb_168_4 c1 x1 x2 x3 x4 x5 x6 I) else (if x6 = x2 then (lb_168_4 c1 x1 x2 x3 x4 x5 x6 I) else (if x5 = x3 then ((f_169 x4 x1 x2 I).bind fun q4 => (lb_168_3 c1 x1 x2 x3 q4.1 x5 x6 q4.2)) else (lb_168_3 c1 x1 x2 x3 x4 x5 x6 I)))) else (if x3 < x5 then (lb_168_6   I) else ((f_169 x4 x1 x2 I).bind fun q2 => (lb_168_6   q2.2))))
def lb_168_1 : Int32 → Int32 → Int32 → Int32 → Int32 → Int32 → (Nat → Nat → Int32) → Option (Nat → Nat → Int32) := fx (fun _ _ _ _ _ _ _ => none) (bd_168_1 ) FU
def f_168 (x1 : Int32) (x2 : Int32) (x3 : Int32) (I : (Nat → Nat → Int32)) : Option (Nat → Nat → Int32) :=
  (lb_168_1  x1 x2 x3 (0 : Int32) (0 : Int32) (0 : Int32) I)
theorem tb_168_7 {d : Nat} {κ : KT} {cs : Nat × Nat} {J : Nat → Nat → Int64} {W : Nat} (c7 : Int32 → Int32 → (Nat → Nat → Int32) → Option (Nat → Nat → Int32)) (k7 : ∀ (x6 : Int32) (x7 : Int32) (I : (Nat → Nat → Int32)) (r : (Nat → Nat → Int32)), c7 x6 x7 I = some r → tt (d + 1) me_168 bk_168_7 [some (.ref 97), none, none, none, none, none, some (.int x6), some (.int x7)] [] (cw (km κ) cs I J W) (.inl none) (cw (km κ) cs r J W)) (x6 : Int32) (x7 : Int32) (I : (Nat → Nat → Int32)) (r : (Nat → Nat → Int32)) (h : bd_168_7  c7 x6 x7 I = some r) : tt (d + 1) me_168 bk_168_7 [some (.ref 97), none, none, none, none, none, some (.int x6), some (.int x7)] [] (cw (km κ) cs I J W) (.inl none) (cw (km κ) cs r J W) :=
  tt_I (L1 := (bk_168_7.drop 4)) (L2 := bk_168_8) 4 [some (.ref 97), none, none, none, none, none, some (.int x6), some (.int x7)] [] (cw (km κ) cs I J W) h (fun _ => rfl) (fun h =>
  tt_J (L1 := (bk_168_7.drop 9)) 4 [some (.ref 97), none, none, none, none, none, some (.int x6), some (.int x7)] [.int x7, .ref 114, .ref 113] (cw (km κ) cs I J W) (fun _ => rfl) (
  tt_Qi rfl h fun h =>
  let I1 := up I 113 ((I 114 (x7).toNatClampNeg)).toNatClampNeg x6
  tt_J (L1 := (bk_168_7.drop 11)) 0 [some (.ref 97), none, none, none, none, none, some (.int x6), some (.int x7)] [.int x6, .int (I 114 (x7).toNatClampNeg), .ref 113] (cw (km κ) cs I J W) (fun _ => rfl) (
  tt_Wi rfl (Nat.le_of_ble_eq_true rfl) h fun h =>
  tt_J (L1 := (bk_168_7.drop 18)) 5 [some (.ref 97), none, none, none, none, none, some (.int x6), some (.int x7)] [.int x7, .ref 114, .ref 112, .int x6] (cw (km κ) cs I1 J W) (fun _ => rfl) (
  tt_Qi rfl h fun h =>
  tt_Qi rfl h fun h =>
  tt_J (L1 := bk_168_7) 3 [some (.ref 97), none, none, none, none, none, some (.int (x6 + (I1 112 ((I1 114 (x7).toNatClampNeg)).toNatClampNeg))), some (.int (x7 + (1 : Int32)))] [] (cw (km κ) cs I1 J W) (fun _ => rfl) (tt_F [some (.ref 97), none, none, none, none, none, some (.int (x6 + (I1 112 ((I1 114 (x7).toNatClampNeg)).toNatClampNeg))), some (.int (x7 + (1 : Int32)))] (And.intro rfl (And.intro rfl (And.intro rfl trivial))) (k7 (x6 + (I1 112 ((I1 114 (x7).toNatClampNeg)).toNatClampNeg)) (x7 + (1 : Int32)) I1 _ h)))))) (fun h =>
  tt_R 1 (fun r => (.inl none)) (fun r => (cw (km κ) cs r J W)) h (fun _ => rfl))
theorem tn_168_7 {d : Nat} {κ : KT} {cs : Nat × Nat} {J : Nat → Nat → Int64} {W : Nat} : ∀ (n : Nat) (x6 : Int32) (x7 : Int32) (I : (Nat → Nat → Int32)) (r : (Nat → Nat → Int32)), fx (fun _ _ _ => none) (bd_168_7 ) n x6 x7 I = some r → tt (d + 1) me_168 bk_168_7 [some (.ref 97), none, none, none, none, none, some (.int x6), some (.int x7)] [] (cw (km κ) cs I J W) (.inl none) (cw (km κ) cs r J W)
  | 0 => fun _ _ _ _ h => nomatch h
  | n + 1 => fun x6 x7 I r h => tb_168_7  (fx _ (bd_168_7 ) n) (tn_168_7  n) x6 x7 I r h
theorem tl_168_7 {d : Nat} {κ : KT} {cs : Nat × Nat} {J : Nat → Nat → Int64} {W : Nat} (x6 : Int32) (x7 : Int32) (I : (Nat → Nat → Int32)) (r : (Nat → Nat → Int32)) (h : lb_168_7  x6 x7 I = some r) : tt (d + 1) me_168 bk_168_7 [some (.ref 97), none, none, none, none, none, some (.int x6), some (.int x7)] [] (cw (km κ) cs I J W) (.inl none) (cw (km κ) cs r J W) := tn_168_7  FU x6 x7 I r h
theorem tl_168_6 {d : Nat} {κ : KT} {cs : Nat × Nat} {J : Nat → Nat → Int64} {W : Nat} (I : (Nat → Nat → Int32)) (r : (Nat → Nat → Int32)) (h : lb_168_6   I = some r) : tt (d + 1) me_168 bk_168_6 [some (.ref 97), none, none, none, none, none, none, none] [] (cw (km κ) cs I J W) (.inl none) (cw (km κ) cs r J W) :=
  tt_J (L1 := bk_168_7) 3 [some (.ref 97), none, none, none, none, none, some (.int (0 : Int32)), some (.int (0 : Int32))] [] (cw (km κ) cs I J W) (fun _ => rfl) (tt_F [some (.ref 97), none, none, none, none, none, some (.int (0 : Int32)), some (.int (0 : Int32))] (And.intro rfl (And.intro rfl (And.intro rfl trivial))) (tl_168_7  (0 : Int32) (0 : Int32) I _ h))
theorem tl_168_4 {d : Nat} {κ : KT} {cs : Nat × Nat} {J : Nat → Nat → Int64} {W : Nat} (c1 : Int32 → Int32 → Int32 → Int32 → Int32 → Int32 → (Nat → Nat → Int32) → Option (Nat → Nat → Int32)) (k1 : ∀ (x1 : Int32) (x2 : Int32) (x3 : Int32) (x4 : Int32) (x5 : Int32) (x6 : Int32) (I : (Nat → Nat → Int32)) (r : (Nat → Nat → Int32)), c1 x1 x2 x3 x4 x5 x6 I = some r → tt (d + 1) me_168 bk_168_1 [some (.ref 97), some (.int x1), some (.int x2), some (.int x3), some (.int x4), some (.int x5), some (.int x6), none] [] (cw (km κ) cs I J W) (.inl none) (cw (km κ) cs r J W)) (x1 : Int32) (x2 : Int32) (x3 : Int32) (x4 : Int32) (x5 : Int32) (x6 : Int32) (I : (Nat → Nat → Int32)) (r : (Nat → Nat → Int32)) (h : lb_168_4 c1 x1 x2 x3 x4 x5 x6 I = some r) : tt (d + 1) me_168 bk_168_4 [some (.ref 97), some (.int x1), some (.int x2), some (.int x3), some (.int x4), some (.int x5), some (.int x6), none] [] (cw (km κ) cs I J W) (.inl none) (cw (km κ) cs r J W) :=
  tt_J (L1 := bk_168_1) 1 [some (.ref 97), some (.int x1), some (.int x2), some (.int x3), some (.int x4), some (.int x5), some (.int (x6 + (1 : Int32))), none] [] (cw (km κ) cs I J W) (fun _ => rfl) (tt_F [some (.ref 97), some (.int x1), some (.int x2), some (.int x3), some (.int x4), some (.int x5), some (.int (x6 + (1 : Int32))), none] (And.intro rfl (And.intro rfl (And.intro rfl (And.intro rfl (And.intro rfl (And.intro rfl (And.intro rfl trivial))))))) (k1 x1 x2 x3 x4 x5 (x6 + (1 : Int32)) I _ h))
theorem tl_168_3 {d : Nat} {κ : KT} {cs : Nat × Nat} {J : Nat → Nat → Int64} {W : Nat} (c1 : Int32 → Int32 → Int32 → Int32 → Int32 → Int32 → (Nat → Nat → Int32) → Option (Nat → Nat → Int32)) (k1 : ∀ (x1 : Int32) (x2 : Int32) (x3 : Int32) (x4 : Int32) (x5 : Int32) (x6 : Int32) (I : (Nat → Nat → Int32)) (r : (Nat → Nat → Int32)), c1 x1 x2 x3 x4 x5 x6 I = some r → tt (d + 1) me_168 bk_168_1 [some (.ref 97), some (.int x1), some (.int x2), some (.int x3), some (.int x4), some (.int x5), some (.int x6), none] [] (cw (km κ) cs I J W) (.inl none) (cw (km κ) cs r J W)) (x1 : Int32) (x2 : Int32) (x3 : Int32) (x4 : Int32) (x5 : Int32) (x6 : Int32) (I : (Nat → Nat → Int32)) (r : (Nat → Nat → Int32)) (h : lb_168_3 c1 x1 x2 x3 x4 x5 x6 I = some r) : tt (d + 1) me_168 bk_168_3 [some (.ref 97), some (.int x1), some (.int x2), some (.int x3), some (.int x4), some (.int x5), some (.int x6), none] [] (cw (km κ) cs I J W) (.inl none) (cw (km κ) cs r J W) :=
  let I3 := up I 114 (x4).toNatClampNeg x6
  tt_J (L1 := (bk_168_3.drop 4)) 3 [some (.ref 97), some (.int x1), some (.int x2), some (.int x3), some (.int x4), some (.int x5), some (.int x6), none] [.int x6, .int x4, .ref 114] (cw (km κ) cs I J W) (fun _ => rfl) (
  tt_Wi rfl (Nat.le_of_ble_eq_true rfl) h fun h =>
  tt_J (L1 := bk_168_4) 1 [some (.ref 97), some (.int x1), some (.int x2), some (.int x3), some (.int (x4 + (1 : Int32))), some (.int (x5 + (1 : Int32))), some (.int x6), none] [] (cw (km κ) cs I3 J W) (fun _ => rfl) (tt_F [some (.ref 97), some (.int x1), some (.int x2), some (.int x3), some (.int (x4 + (1 : Int32))), some (.int (x5 + (1 : Int32))), some (.int x6), none] (And.intro rfl (And.intro rfl (And.intro rfl (And.intro rfl (And.intro rfl (And.intro rfl (And.intro rfl trivial))))))) (tl_168_4 c1 k1 x1 x2 x3 (x4 + (1 : Int32)) (x5 + (1 : Int32)) x6 I3 _ h)))
theorem tb_168_1 {d : Nat} {κ : KT} {cs : Nat × Nat} {J : Nat → Nat → Int64} {W : Nat} (c1 : Int32 → Int32 → Int32 → Int32 → Int32 → Int32 → (Nat → Nat → Int32) → Option (Nat → Nat → Int32)) (k1 : ∀ (x1 : Int32) (x2 : Int32) (x3 : Int32) (x4 : Int32) (x5 : Int32) (x6 : Int32) (I : (Nat → Nat → Int32)) (r : (Nat → Nat → Int32)), c1 x1 x2 x3 x4 x5 x6 I = some r → tt (d + 1) me_168 bk_168_1 [some (.ref 97), some (.int x1), some (.int x2), some (.int x3), some (.int x4), some (.int x5), some (.int x6), none] [] (cw (km κ) cs I J W) (.inl none) (cw (km κ) cs r J W)) (x1 : Int32) (x2 : Int32) (x3 : Int32) (x4 : Int32) (x5 : Int32) (x6 : Int32) (I : (Nat → Nat → Int32)) (r : (Nat → Nat → Int32)) (h : bd_168_1  c1 x1 x2 x3 x4 x5 x6 I = some r) : tt (d + 1) me_168 bk_168_1 [some (.ref 97), some (.int x1), some (.int x2), some (.int x3), some (.int x4), some (.int x5), some (.int x6), none] [] (cw (km κ) cs I J W) (.inl none) (cw (km κ) cs r J W) :=
  tt_I (L1 := (bk_168_1.drop 4)) (L2 := bk_168_5) 4 [some (.ref 97), some (.int x1), some (.int x2), some (.int x3), some (.int x4), some (.int x5), some (.int x6), none] [] (cw (km κ) cs I J W) h (fun _ => rfl) (fun h =>
  tt_I (L1 := bk_168_4) (L2 := (bk_168_1.drop 7)) 3 [some (.ref 97), some (.int x1), some (.int x2), some (.int x3), some (.int x4), some (.int x5), some (.int x6), none] [] (cw (km κ) cs I J W) h (fun _ => rfl) (fun h =>
  tt_F [some (.ref 97), some (.int x1), some (.int x2), some (.int x3), some (.int x4), some (.int x5), some (.int x6), none] (And.intro rfl (And.intro rfl (And.intro rfl (And.intro rfl (And.intro rfl (And.intro rfl (And.intro rfl trivial))))))) (tl_168_4 c1 k1 x1 x2 x3 x4 x5 x6 I _ h)) (fun h =>
  tt_I (L1 := (bk_168_1.drop 10)) (L2 := bk_168_2) 3 [some (.ref 97), some (.int x1), some (.int x2), some (.int x3), some (.int x4), some (.int x5), some (.int x6), none] [] (cw (km κ) cs I J W) h (fun _ => rfl) (fun h =>
  tt_J (L1 := bk_168_4) 0 [some (.ref 97), some (.int x1), some (.int x2), some (.int x3), some (.int x4), some (.int x5), some (.int x6), none] [] (cw (km κ) cs I J W) (fun _ => rfl) (tt_F [some (.ref 97), some (.int x1), some (.int x2), some (.int x3), some (.int x4), some (.int x5), some (.int x6), none] (And.intro rfl (And.intro rfl (And.intro rfl (And.intro rfl (And.intro rfl (And.intro rfl (And.intro rfl trivial))))))) (tl_168_4 c1 k1 x1 x2 x3 x4 x5 x6 I _ h))) (fun h =>
  tt_I (L1 := (bk_168_2.drop 3)) (L2 := bk_168_3) 3 [some (.ref 97), some (.int x1), some (.int x2), some (.int x3), some (.int x4), some (.int x5), some (.int x6), none] [] (cw (km κ) cs I J W) h (fun _ => rfl) (fun h =>
  tt_C (L1 := (bk_168_2.drop 8)) 5 [some (.ref 97), some (.int x1), some (.int x2), some (.int x3), some (.int x4), some (.int x5), some (.int x6), none] [] (cw (km κ) cs I J W) h (fun _ => rfl) (fun _ e => m_169 (d := d) e) fun q4 h =>
  tt_J (L1 := bk_168_3) 0 [some (.ref 97), some (.int x1), some (.int x2), some (.int x3), some (.int q4.1), some (.int x5), some (.int x6), none] [] (cw (km κ) cs q4.2 J W) (fun _ => rfl) (tt_F [some (.ref 97), some (.int x1), some (.int x2), some (.int x3), some (.int q4.1), some (.int x5), some (.int x6), none] (And.intro rfl (And.intro rfl (And.intro rfl (And.intro rfl (And.intro rfl (And.intro rfl (And.intro rfl trivial))))))) (tl_168_3 c1 k1 x1 x2 x3 q4.1 x5 x6 q4.2 _ h))) (fun h =>
  tt_F [some (.ref 97), some (.int x1), some (.int x2), some (.int x3), some (.int x4), some (.int x5), some (.int x6), none] (And.intro rfl (And.intro rfl (And.intro rfl (And.intro rfl (And.intro rfl (And.intro rfl (And.intro rfl trivial))))))) (tl_168_3 c1 k1 x1 x2 x3 x4 x5 x6 I _ h))))) (fun h =>
  tt_I (L1 := bk_168_6) (L2 := (bk_168_5.drop 3)) 3 [some (.ref 97), some (.int x1), some (.int x2), some (.int x3), some (.int x4), some (.int x5), some (.int x6), none] [] (cw (km κ) cs I J W) h (fun _ => rfl) (fun h =>
  tt_F [some (.ref 97), none, none, none, none, none, none, none] (And.intro rfl trivial) (tl_168_6   I _ h)) (fun h =>
  tt_C (L1 := (bk_168_5.drop 8)) 5 [some (.ref 97), some (.int x1), some (.int x2), some (.int x3), some (.int x4), some (.int x5), some (.int x6), none] [] (cw (km κ) cs I J W) h (fun _ => rfl) (fun _ e => m_169 (d := d) e) fun q2 h =>
  tt_J (L1 := bk_168_6) 0 [some (.ref 97), some (.int x1), some (.int x2), some (.int x3), some (.int x4), some (.int x5), some (.int x6), none] [] (cw (km κ) cs q2.2 J W) (fun _ => rfl) (tt_F [some (.ref 97), none, none, none, none, none, none, none] (And.intro rfl trivial) (tl_168_6   q2.2 _ h))))
theorem tn_168_1 {d : Nat} {κ : KT} {cs : Nat × Nat} {J : Nat → Nat → Int64} {W : Nat} : ∀ (n : Nat) (x1 : Int32) (x2 : Int32) (x3 : Int32) (x4 : Int32) (x5 : Int32) (x6 : Int32) (I : (Nat → Nat → Int32)) (r : (Nat → Nat → Int32)), fx (fun _ _ _ _ _ _ _ => none) (bd_168_1 ) n x1 x2 x3 x4 x5 x6 I = some r → tt (d + 1) me_168 bk_168_1 [some (.ref 97), some (.int x1), some (.int x2), some (.int x3), some (.int x4), some (.int x5), some (.int x6), none] [] (cw (km κ) cs I J W) (.inl none) (cw (km κ) cs r J W)
  | 0 => fun _ _ _ _ _ _ _ _ h => nomatch h
  | n + 1 => fun x1 x2 x3 x4 x5 x6 I r h => tb_168_1  (fx _ (bd_168_1 ) n) (tn_168_1  n) x1 x2 x3 x4 x5 x6 I r h
theorem tl_168_1 {d : Nat} {κ : KT} {cs : Nat × Nat} {J : Nat → Nat → Int64} {W : Nat} (x1 : Int32) (x2 : Int32) (x3 : Int32) (x4 : Int32) (x5 : Int32) (x6 : Int32) (I : (Nat → Nat → Int32)) (r : (Nat → Nat → Int32)) (h : lb_168_1  x1 x2 x3 x4 x5 x6 I = some r) : tt (d + 1) me_168 bk_168_1 [some (.ref 97), some (.int x1), some (.int x2), some (.int x3), some (.int x4), some (.int x5), some (.int x6), none] [] (cw (km κ) cs I J W) (.inl none) (cw (km κ) cs r J W) := tn_168_1  FU x1 x2 x3 x4 x5 x6 I r h
theorem m_168 {d : Nat} {κ : KT} {cs : Nat × Nat} {J : Nat → Nat → Int64} {W : Nat} {x1 : Int32} {x2 : Int32} {x3 : Int32} {I : (Nat → Nat → Int32)} {r : (Nat → Nat → Int32)} (h : f_168 x1 x2 x3 I = some r) : tm (d + 1) 168 [.ref 97, .int x1, .int x2, .int x3] (cw (km κ) cs I J W) (.inl none) (cw (km κ) cs r J W) :=
  tm_of me_168 rfl (Nat.le_of_ble_eq_true rfl) (
  tt_J (L1 := bk_168_1) 5 [some (.ref 97), some (.int x1), some (.int x2), some (.int x3), some (.int (0 : Int32)), some (.int (0 : Int32)), some (.int (0 : Int32)), none] [] (cw (km κ) cs I J W) (fun _ => rfl) (tt_F [some (.ref 97), some (.int x1), some (.int x2), some (.int x3), some (.int (0 : Int32)), some (.int (0 : Int32)), some (.int (0 : Int32)), none] (And.intro rfl (And.intro rfl (And.intro rfl (And.intro rfl (And.intro rfl (And.intro rfl (And.intro rfl trivial))))))) (tl_168_1  x1 x2 x3 (0 : Int32) (0 : Int32) (0 : Int32) I _ h)))
/- 170 -/
def f_170 (x1 : Int32) (I : (Nat → Nat → Int32)) : Option Int32 :=
  (if ex_in x1 60 then (if ex_in (I 110 (x1).toNatClampNeg) 6 then (if ex_in x1 60 then (some ((I 113 ((I 110 (x1).toNatClampNeg)).toNatClampNeg) + (I 111 (x1).toNatClampNeg))) else none) else none) else none)
theorem m_170 {d : Nat} {κ : KT} {cs : Nat × Nat} {J : Nat → Nat → Int64} {W : Nat} {x1 : Int32} {I : (Nat → Nat → Int32)} {r : Int32} (h : f_170 x1 I = some r) : tm d 170 [.ref 97, .int x1] (cw (km κ) cs I J W) (.inl (some (.int r))) (cw (km κ) cs I J W) :=
  tm_of me_170 rfl (Nat.le_of_ble_eq_true rfl) (
  tt_J (L1 := (bk_170_0.drop 5)) 4 [some (.ref 97), some (.int x1)] [.int x1, .ref 110, .ref 113] (cw (km κ) cs I J W) (fun _ => rfl) (
  tt_Qi rfl h fun h =>
  tt_Qi rfl h fun h =>
  tt_J (L1 := (bk_170_0.drop 10)) 2 [some (.ref 97), some (.int x1)] [.int x1, .ref 111, .int (I 113 ((I 110 (x1).toNatClampNeg)).toNatClampNeg)] (cw (km κ) cs I J W) (fun _ => rfl) (
  tt_Qi rfl h fun h =>
  tt_R 2 (fun r => (.inl (some (.int r)))) (fun r => (cw (km κ) cs I J W)) h (fun _ => rfl))))
/- 171 -/
def lb_171_3 (s0 : Int32) : Option Int32 :=
  (some s0)
def lb_171_2 : Option Int32 :=
  (lb_171_3  (0 : Int32) )
def lb_171_7 (s0 : Int32) : Option Int32 :=
  (some s0)
def lb_171_5 : Option Int32 :=
  (lb_171_7  (1 : Int32) )
def lb_171_10 (s0 : Int32) : Option Int32 :=
  (some s0)
def lb_171_13 (s0 : Int32) : Option Int32 :=
  (some s0)
def lb_171_19 (s0 : Int32) : Option Int32 :=
  (some s0)
def f_171 (x0 : Int32) (x1 : Int32) (x2 : Int32) : Option Int32 :=
  (if x0 = (4 : Int32) then (if x1 = 0 then (lb_171_2   ) else (if x2 = 0 then (lb_171_2   ) else (lb_171_3  (1 : Int32) ))) else (if x0 = (5 : Int32) then (if x1 = 0 then (if x2 = 0 then (lb_171_7  (0 : Int32) ) else (lb_171_5   )) else (lb_171_5   )) else (if x0 = (6 : Int32) then (if x1 < x2 then (lb_171_10  (1 : Int32) ) else (lb_171_10  (0 : Int32) )) else (if x0 = (7 : Int32) then (if x1 = x2 then (lb_171_13  (1 : Int32) ) else (lb_171_13  (0 : Int32) )) else (if x0 = (8 : Int32) then (some (x1 + x2)) else (if x0 = (9 : Int32) then (some (x1 - x2)) else (if x0 = (10 : Int32) then (some (x1 * x2)) else (if x2 = 0 then (lb_171_19  (0 : Int32) ) else (if x2 = 0 then none else (lb_171_19  (x1 / x2) ))))))))))
theorem tl_171_3 {d : Nat} {κ : KT} {cs : Nat × Nat} {I : Nat → Nat → Int32} {J : Nat → Nat → Int64} {W : Nat} (s0 : Int32) (r : Int32) (h : lb_171_3  s0  = some r) : tt d me_171 bk_171_3 [none, none, none] [.int s0] (cw (km κ) cs I J W) (.inl (some (.int r))) (cw (km κ) cs I J W) :=
  tt_R 1 (fun r => (.inl (some (.int r)))) (fun r => (cw (km κ) cs I J W)) h (fun _ => rfl)
theorem tl_171_2 {d : Nat} {κ : KT} {cs : Nat × Nat} {I : Nat → Nat → Int32} {J : Nat → Nat → Int64} {W : Nat} (r : Int32) (h : lb_171_2    = some r) : tt d me_171 bk_171_2 [none, none, none] [] (cw (km κ) cs I J W) (.inl (some (.int r))) (cw (km κ) cs I J W) :=
  tt_J (L1 := bk_171_3) 0 [none, none, none] [.int (0 : Int32)] (cw (km κ) cs I J W) (fun _ => rfl) (tt_F [none, none, none] trivial (tl_171_3  (0 : Int32)  _ h))
theorem tl_171_7 {d : Nat} {κ : KT} {cs : Nat × Nat} {I : Nat → Nat → Int32} {J : Nat → Nat → Int64} {W : Nat} (s0 : Int32) (r : Int32) (h : lb_171_7  s0  = some r) : tt d me_171 bk_171_7 [none, none, none] [.int s0] (cw (km κ) cs I J W) (.inl (some (.int r))) (cw (km κ) cs I J W) :=
  tt_R 1 (fun r => (.inl (some (.int r)))) (fun r => (cw (km κ) cs I J W)) h (fun _ => rfl)
theorem tl_171_5 {d : Nat} {κ : KT} {cs : Nat × Nat} {I : Nat → Nat → Int32} {J : Nat → Nat → Int64} {W : Nat} (r : Int32) (h : lb_171_5    = some r) : tt d me_171 bk_171_5 [none, none, none] [] (cw (km κ) cs I J W) (.inl (some (.int r))) (cw (km κ) cs I J W) :=
  tt_J (L1 := bk_171_7) 1 [none, none, none] [.int (1 : Int32)] (cw (km κ) cs I J W) (fun _ => rfl) (tt_F [none, none, none] trivial (tl_171_7  (1 : Int32)  _ h))
theorem tl_171_10 {d : Nat} {κ : KT} {cs : Nat × Nat} {I : Nat → Nat → Int32} {J : Nat → Nat → Int64} {W : Nat} (s0 : Int32) (r : Int32) (h : lb_171_10  s0  = some r) : tt d me_171 bk_171_10 [none, none, none] [.int s0] (cw (km κ) cs I J W) (.inl (some (.int r))) (cw (km κ) cs I J W) :=
  tt_R 1 (fun r => (.inl (some (.int r)))) (fun r => (cw (km κ) cs I J W)) h (fun _ => rfl)
theorem tl_171_13 {d : Nat} {κ : KT} {cs : Nat × Nat} {I : Nat → Nat → Int32} {J : Nat → Nat → Int64} {W : Nat} (s0 : Int32) (r : Int32) (h : lb_171_13  s0  = some r) : tt d me_171 bk_171_13 [none, none, none] [.int s0] (cw (km κ) cs I J W) (.inl (some (.int r))) (cw (km κ) cs I J W) :=
  tt_R 1 (fun r => (.inl (some (.int r)))) (fun r => (cw (km κ) cs I J W)) h (fun _ => rfl)
theorem tl_171_19 {d : Nat} {κ : KT} {cs : Nat × Nat} {I : Nat → Nat → Int32} {J : Nat → Nat → Int64} {W : Nat} (s0 : Int32) (r : Int32) (h : lb_171_19  s0  = some r) : tt d me_171 bk_171_19 [none, none, none] [.int s0] (cw (km κ) cs I J W) (.inl (some (.int r))) (cw (km κ) cs I J W) :=
  tt_R 1 (fun r => (.inl (some (.int r)))) (fun r => (cw (km κ) cs I J W)) h (fun _ => rfl)
theorem m_171 {d : Nat} {κ : KT} {cs : Nat × Nat} {I : Nat → Nat → Int32} {J : Nat → Nat → Int64} {W : Nat} {x0 : Int32} {x1 : Int32} {x2 : Int32} {r : Int32} (h : f_171 x0 x1 x2  = some r) : tm d 171 [.int x0, .int x1, .int x2] (cw (km κ) cs I J W) (.inl (some (.int r))) (cw (km κ) cs I J W) :=
  tm_of me_171 rfl (Nat.le_of_ble_eq_true rfl) (
  tt_J (L1 := (bk_171_0.drop 1)) 0 [some (.int x0), some (.int x1), some (.int x2)] [.int x0] (cw (km κ) cs I J W) (fun _ => rfl) (
  tt_T (L1 := bk_171_1) (4 : Int32) h (fun _ => rfl) (fun h =>
  tt_I (L1 := bk_171_2) (L2 := (bk_171_1.drop 2)) 2 [some (.int x0), some (.int x1), some (.int x2)] [] (cw (km κ) cs I J W) h (fun _ => rfl) (fun h =>
  tt_F [none, none, none] trivial (tl_171_2    _ h)) (fun h =>
  tt_I (L1 := bk_171_2) (L2 := (bk_171_1.drop 4)) 2 [some (.int x0), some (.int x1), some (.int x2)] [] (cw (km κ) cs I J W) h (fun _ => rfl) (fun h =>
  tt_F [none, none, none] trivial (tl_171_2    _ h)) (fun h =>
  tt_J (L1 := bk_171_3) 1 [some (.int x0), some (.int x1), some (.int x2)] [.int (1 : Int32)] (cw (km κ) cs I J W) (fun _ => rfl) (tt_F [none, none, none] trivial (tl_171_3  (1 : Int32)  _ h))))) (fun e0 h =>
  tt_T (L1 := bk_171_4) (5 : Int32) h (fun _ => rfl) (fun h =>
  tt_I (L1 := (bk_171_4.drop 2)) (L2 := bk_171_5) 2 [some (.int x0), some (.int x1), some (.int x2)] [] (cw (km κ) cs I J W) h (fun _ => rfl) (fun h =>
  tt_I (L1 := bk_171_6) (L2 := bk_171_5) 2 [some (.int x0), some (.int x1), some (.int x2)] [] (cw (km κ) cs I J W) h (fun _ => rfl) (fun h =>
  tt_J (L1 := bk_171_7) 0 [some (.int x0), some (.int x1), some (.int x2)] [.int (0 : Int32)] (cw (km κ) cs I J W) (fun _ => rfl) (tt_F [none, none, none] trivial (tl_171_7  (0 : Int32)  _ h))) (fun h =>
  tt_F [none, none, none] trivial (tl_171_5    _ h))) (fun h =>
  tt_F [none, none, none] trivial (tl_171_5    _ h))) (fun e1 h =>
  tt_T (L1 := bk_171_8) (6 : Int32) h (fun _ => rfl) (fun h =>
  tt_I (L1 := (bk_171_8.drop 3)) (L2 := bk_171_9) 3 [some (.int x0), some (.int x1), some (.int x2)] [] (cw (km κ) cs I J W) h (fun _ => rfl) (fun h =>
  tt_J (L1 := bk_171_10) 1 [some (.int x0), some (.int x1), some (.int x2)] [.int (1 : Int32)] (cw (km κ) cs I J W) (fun _ => rfl) (tt_F [none, none, none] trivial (tl_171_10  (1 : Int32)  _ h))) (fun h =>
  tt_J (L1 := bk_171_10) 0 [some (.int x0), some (.int x1), some (.int x2)] [.int (0 : Int32)] (cw (km κ) cs I J W) (fun _ => rfl) (tt_F [none, none, none] trivial (tl_171_10  (0 : Int32)  _ h)))) (fun e2 h =>
  tt_T (L1 := bk_171_11) (7 : Int32) h (fun _ => rfl) (fun h =>
  tt_I (L1 := (bk_171_11.drop 3)) (L2 := bk_171_12) 3 [some (.int x0), some (.int x1), some (.int x2)] [] (cw (km κ) cs I J W) h (fun _ => rfl) (fun h =>
  tt_J (L1 := bk_171_13) 1 [some (.int x0), some (.int x1), some (.int x2)] [.int (1 : Int32)] (cw (km κ) cs I J W) (fun _ => rfl) (tt_F [none, none, none] trivial (tl_171_13  (1 : Int32)  _ h))) (fun h =>
  tt_J (L1 := bk_171_13) 0 [some (.int x0), some (.int x1), some (.int x2)] [.int (0 : Int32)] (cw (km κ) cs I J W) (fun _ => rfl) (tt_F [none, none, none] trivial (tl_171_13  (0 : Int32)  _ h)))) (fun e3 h =>
  tt_T (L1 := bk_171_14) (8 : Int32) h (fun _ => rfl) (fun h =>
  tt_R 4 (fun r => (.inl (some (.int r)))) (fun r => (cw (km κ) cs I J W)) h (fun _ => rfl)) (fun e4 h =>
  tt_T (L1 := bk_171_15) (9 : Int32) h (fun _ => rfl) (fun h =>
  tt_R 4 (fun r => (.inl (some (.int r)))) (fun r => (cw (km κ) cs I J W)) h (fun _ => rfl)) (fun e5 h =>
  tt_T (L1 := bk_171_16) (10 : Int32) h (fun _ => rfl) (fun h =>
  tt_R 4 (fun r => (.inl (some (.int r)))) (fun r => (cw (km κ) cs I J W)) h (fun _ => rfl)) (fun e6 h =>
  tt_T0 (by have e0 := nev e0 (show ((4 : Int32)).toInt = 4 from rfl); have e1 := nev e1 (show ((5 : Int32)).toInt = 5 from rfl); have e2 := nev e2 (show ((6 : Int32)).toInt = 6 from rfl); have e3 := nev e3 (show ((7 : Int32)).toInt = 7 from rfl); have e4 := nev e4 (show ((8 : Int32)).toInt = 8 from rfl); have e5 := nev e5 (show ((9 : Int32)).toInt = 9 from rfl); have e6 := nev e6 (show ((10 : Int32)).toInt = 10 from rfl); omega) (
  tt_I (L1 := (bk_171_17.drop 2)) (L2 := bk_171_18) 2 [some (.int x0), some (.int x1), some (.int x2)] [] (cw (km κ) cs I J W) h (fun _ => rfl) (fun h =>
  tt_J (L1 := bk_171_19) 1 [some (.int x0), some (.int x1), some (.int x2)] [.int (0 : Int32)] (cw (km κ) cs I J W) (fun _ => rfl) (tt_F [none, none, none] trivial (tl_171_19  (0 : Int32)  _ h))) (fun h =>
  tt_J (L1 := (bk_171_18.drop 2)) 1 [some (.int x0), some (.int x1), some (.int x2)] [.int x2, .int x1] (cw (km κ) cs I J W) (fun _ => rfl) (
  tt_Di h fun h =>
  tt_F [none, none, none] trivial (tl_171_19  (x1 / x2)  _ h)))))))))))))
